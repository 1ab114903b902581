theorem law_lim {L i : Nat} (hL : L ≤ 2560) (hi : i ≤ 3000) : (Int32.ofNat L - 5 < nI i) ↔ L < i + 5 := by
  have e : (Int32.ofNat L - 5).toInt = (L : Int) - 5 := pk_sub_toInt (a := L) (b := 5) (by omega) (by omega)
  rw [Int32.lt_iff_toInt_lt, e, nI_toInt (by omega)]
  omega
set_option maxRecDepth 100000 in
set_option maxHeartbeats 4000000 in
theorem law_end {p : Program} {l : Launch} {e : Env} {s : State} {m : MethodId} {below : List Frame} {meth : Method} {c : Code} {b L i : Nat} {xs : Nat → Int32} {H : Heap} {locs : List Loc} {ls : Array Slot} {q1 q2 : Nat} (hx : p.tables.exec = Jvm.exec) (hb : c.code = code) (hr : meth.sig.returnType = ret) (hlocks : meth.locks = false) (hX : va_X b L xs s s.heap) (hbl : b < s.heap.size) (hbA : ¬ (fun q : Nat => s.heap.size ≤ q) b) (hL : L ≤ 2560) (hi : L + 5 ≤ i + 0) (hS : va_S (fun q : Nat => s.heap.size ≤ q) s.heap H locs) (hl : lv_has ls 4 [(0, .ref b), (1, .ref q1), (2, .ref q2), (3, .int (nI i))]) (hi2 : i ≤ L + 5 := by assumption) : W p l e room_1 s m #[Value.ref b] below meth c H locs 600000 7302250 (lw_Z below #[Value.ref b] s) (F0 m 18 ls []) := by
  refine lv_iload_n hx hb dL_law_18 rfl (lv_at hl 3 rfl) ?_
  refine lv_aload_n hx hb dL_law_19 rfl (lv_at hl 0 rfl) ?_
  refine va_slen hx hb hX hbl hbA hS dL_law_20 ?_
  refine lv_iconst (v := 5) hx hb dL_law_21 (by decide) ?_
  refine lv_isub hx hb dL_law_22 ?_
  refine lv_icmp_gt (tgt := 816) hx hb dL_law_23 (by decide) (fun c_10 => ?_) (fun c_10 => absurd ((law_lim hL (by omega)).mpr (by omega)) c_10)
  refine lv_iconst (v := 1) hx hb dL_law_816 (by decide) ?_
  refine va_forget (fun q hq => hS.2.2 q hq) ?_
  refine W.base ?_
  exact lw_ret (Drawn.sameBut.refl s.drawn lw_cs) hx hb hr hlocks dL_law_817
set_option maxRecDepth 100000 in
set_option maxHeartbeats 8000000 in
theorem law_loop {LI : LIT} (hop : op_all LI) {p : Program} {l : Launch} {e : Env} {s : State} {m : MethodId} {below : List Frame} {meth : Method} {c : Code} {G : va_G} {cy : Nat → ClassId} {b L : Nat} {xs : Nat → Int32} (hL : L ≤ 2560) (C0 : lw_At p s m meth c b L xs) (hE : EV G cy s) (hEx : xST (fun q => s.heap.size ≤ q) s) :
    ∀ (n i : Nat), i ≤ L + 5 → L + 5 ≤ i + n → ∀ (g a b0 t d : Nat → Nat) (vn : Nat → Int32) (vf : Nat → UInt32) (vs : Nat → Int32) (vp : Nat → Int32) (vq : Nat → Int32) (vd : Nat → Int32) (vo : Nat → Int32) (un : Nat → Int32) (uf : Nat → UInt32) (us : Nat → Int32) (up : Nat → Int32) (uq : Nat → Int32) (ud : Nat → Int32) (uo : Nat → Int32) (tm : Nat → Int32) (tx : Nat → Int32) (hc : Nat → Int32) (hh : Nat → Sx) (ss : Nat → Sx) (sv : Nat → Int32) (mn : Nat → Int32) (mf : Nat → UInt32) (mk : Nat → Int32) (mg : Nat → UInt32) (mv : Nat → Int32) (mt : Nat → Int32) (mm : Nat → Int32), LI vn vf vs vp vq vd vo un uf us up uq ud uo tm tx hc hh ss sv mn mf mk mg mv mt mm → ∀ (H : Heap) (locs : List Loc) (ls : Array Slot), va_P G vwCl (mo_W cy g a b0 t vn vf vs vp vq vd vo un uf us up uq ud uo tm tx hc hh ss sv ++ md_W cy d mn mf mk mg mv mt mm) H → va_D (fun q : Nat => s.heap.size ≤ q) (mo_W cy g a b0 t vn vf vs vp vq vd vo un uf us up uq ud uo tm tx hc hh ss sv ++ md_W cy d mn mf mk mg mv mt mm) → va_S (fun q : Nat => s.heap.size ≤ q) s.heap H locs → lv_has ls 4 [(0, .ref b), (1, .ref (g 0)), (2, .ref (d 0)), (3, .int (nI i))] → W p l e room_1 s m #[Value.ref b] below meth c H locs 600000 7302250 (lw_Z below #[Value.ref b] s) (F0 m 18 ls []) := by
  obtain ⟨hx, hb, hr, hml, hown, hts0, hX, hbl, hlocks, hgv⟩ := C0
  have hts : ∀ w ∈ wsL_law, w.before #[Value.ref b] s = true := fun w h => hts0 w (wsL_law_in w h)
  have hA : ∀ q : Nat, s.heap.size ≤ q → (fun q : Nat => s.heap.size ≤ q) q := fun _ h => h
  have hbA : ¬ (fun q : Nat => s.heap.size ≤ q) b := Nat.not_le.mpr hbl
  have S : CallFix p m c cL_law 4 s #[Value.ref b] wsL_law RL := ⟨hx, hb, hml, hown, hts⟩
  intro n
  induction n with
  | zero => intro i h1 h2; intro g a b0 t d vn vf vs vp vq vd vo un uf us up uq ud uo tm tx hc hh ss sv mn mf mk mg mv mt mm hI H locs ls hP hD hS hl
            exact law_end hx hb hr hlocks hX hbl hbA hL h2 hS hl
  | succ n ih =>
    intro i hi hin g a b0 t d vn vf vs vp vq vd vo un uf us up uq ud uo tm tx hc hh ss sv mn mf mk mg mv mt mm hI H locs ls hP hD hS hl
    refine lv_iload_n hx hb dL_law_18 rfl (lv_at hl 3 rfl) ?_
    refine lv_aload_n hx hb dL_law_19 rfl (lv_at hl 0 rfl) ?_
    refine va_slen hx hb hX hbl hbA hS dL_law_20 ?_
    refine lv_iconst (v := 5) hx hb dL_law_21 (by decide) ?_
    refine lv_isub hx hb dL_law_22 ?_
    refine lv_icmp_gt (tgt := 816) hx hb dL_law_23 (by decide) (fun c_10 => ?_) (fun c_10 => ?_)
    · refine lv_iconst (v := 1) hx hb dL_law_816 (by decide) ?_
      refine va_forget (fun q hq => hS.2.2 q hq) ?_
      refine W.base ?_
      exact lw_ret (Drawn.sameBut.refl s.drawn lw_cs) hx hb hr hlocks dL_law_817
    have h5 : i + 5 ≤ L := by
      rcases Nat.lt_or_ge L (i + 5) with q | q
      · exact absurd ((law_lim hL (by omega)).mpr q) c_10
      · exact q
    have g_0 : vp_in (nI i) L := vp_in_nI (by omega) (by omega)
    have g_1 : vp_in (nI i + 1) L := by
      rw [show (1 : Int32) = nI 1 from rfl, nI_add]
      exact vp_in_nI (by omega) (by omega)
    have g_2 : vp_in (nI i + 2) L := by
      rw [show (2 : Int32) = nI 2 from rfl, nI_add]
      exact vp_in_nI (by omega) (by omega)
    have g_3 : vp_in (nI i + 3) L := by
      rw [show (3 : Int32) = nI 3 from rfl, nI_add]
      exact vp_in_nI (by omega) (by omega)
    have g_4 : vp_in (nI i + 4) L := by
      rw [show (4 : Int32) = nI 4 from rfl, nI_add]
      exact vp_in_nI (by omega) (by omega)
    refine lv_aload_n hx hb dL_law_26 rfl (lv_at hl 0 rfl) ?_
    refine lv_iload_n hx hb dL_law_27 rfl (lv_at hl 3 rfl) ?_
    refine va_sld hx hb hX hbl hbA hS g_0 dL_law_28 ?_
    refine lv_bipush (v := 31) hx hb dL_law_29 (by decide) ?_
    refine lv_iand hx hb dL_law_31 ?_
    generalize xs (nI i).toNatClampNeg &&& 31 = x
    generalize hs1 : xs (nI i + 1).toNatClampNeg = s1
    generalize hs2 : xs (nI i + 2).toNatClampNeg = s2
    generalize hs3 : xs (nI i + 3).toNatClampNeg = s3
    generalize hs4 : xs (nI i + 4).toNatClampNeg = s4
    have J : ∀ (vn : Nat → Int32) (vf : Nat → UInt32) (vs : Nat → Int32) (vp : Nat → Int32) (vq : Nat → Int32) (vd : Nat → Int32) (vo : Nat → Int32) (un : Nat → Int32) (uf : Nat → UInt32) (us : Nat → Int32) (up : Nat → Int32) (uq : Nat → Int32) (ud : Nat → Int32) (uo : Nat → Int32) (tm : Nat → Int32) (tx : Nat → Int32) (hc : Nat → Int32) (hh : Nat → Sx) (ss : Nat → Sx) (sv : Nat → Int32) (mn : Nat → Int32) (mf : Nat → UInt32) (mk : Nat → Int32) (mg : Nat → UInt32) (mv : Nat → Int32) (mt : Nat → Int32) (mm : Nat → Int32), LI vn vf vs vp vq vd vo un uf us up uq ud uo tm tx hc hh ss sv mn mf mk mg mv mt mm → ∀ (H : Heap) (locs : List Loc) (ls : Array Slot), va_P G vwCl (mo_W cy g a b0 t vn vf vs vp vq vd vo un uf us up uq ud uo tm tx hc hh ss sv ++ md_W cy d mn mf mk mg mv mt mm) H → va_D (fun q : Nat => s.heap.size ≤ q) (mo_W cy g a b0 t vn vf vs vp vq vd vo un uf us up uq ud uo tm tx hc hh ss sv ++ md_W cy d mn mf mk mg mv mt mm) → va_S (fun q : Nat => s.heap.size ≤ q) s.heap H locs → lv_has ls 4 [(0, .ref b), (1, .ref (g 0)), (2, .ref (d 0)), (3, .int (nI i))] → W p l e room_1 s m #[Value.ref b] below meth c H locs 600000 7302250 (lw_Z below #[Value.ref b] s) (F0 m 810 ls []) := by
      intro vn vf vs vp vq vd vo un uf us up uq ud uo tm tx hc hh ss sv mn mf mk mg mv mt mm hI H locs ls hP hD hS hl
      refine lv_iinc (v := nI (i + 5)) (lv' := [(3, .int (nI (i + 5))), (0, .ref b), (1, .ref (g 0)), (2, .ref (d 0))]) hx hb dL_law_810 hl (k := 3) rfl (by rw [show Int32.ofInt 5 = nI 5 by decide +kernel]; exact nI_add i 5) (by decide) rfl (fun ls hl => ?_)
      refine lv_goto (tgt := 18) hx hb dL_law_813 (by decide) ?_
      exact ih (i + 5) (by omega) (by omega) g a b0 t d vn vf vs vp vq vd vo un uf us up uq ud uo tm tx hc hh ss sv mn mf mk mg mv mt mm hI H locs ls hP hD hS (lv_sub hl [1, 2, 3, 0] rfl)
    rcases Classical.em (x = 0) with e_0 | e_0
    · refine lv_tableIn (tgt := 160) hx hb dL_law_32 (by rw [e_0]; decide) (by rw [e_0]; decide) (by rw [e_0]; rfl) (by decide) ?_
      have h := hop.1 vn vf vs vp vq vd vo un uf us up uq ud uo tm tx hc hh ss sv mn mf mk mg mv mt mm s1 s2 s3 s4 hI
      refine lv_aload_n hx hb dL_law_160 rfl (lv_at hl 1 rfl) ?_
      refine lv_aload_n hx hb dL_law_161 rfl (lv_at hl 0 rfl) ?_
      refine lv_iload_n hx hb dL_law_162 rfl (lv_at hl 3 rfl) ?_
      refine lv_iconst (v := 1) hx hb dL_law_163 (by decide) ?_
      refine lv_iadd hx hb dL_law_164 ?_
      refine va_sld hx hb hX hbl hbA hS g_1 dL_law_165 ?_
      rw [hs1]
      refine lv_aload_n hx hb dL_law_166 rfl (lv_at hl 0 rfl) ?_
      refine lv_iload_n hx hb dL_law_167 rfl (lv_at hl 3 rfl) ?_
      refine lv_iconst (v := 2) hx hb dL_law_168 (by decide) ?_
      refine lv_iadd hx hb dL_law_169 ?_
      refine va_sld hx hb hX hbl hbA hS g_2 dL_law_170 ?_
      rw [hs2]
      refine lv_aload_n hx hb dL_law_171 rfl (lv_at hl 0 rfl) ?_
      refine lv_iload_n hx hb dL_law_172 rfl (lv_at hl 3 rfl) ?_
      refine lv_iconst (v := 3) hx hb dL_law_173 (by decide) ?_
      refine lv_iadd hx hb dL_law_174 ?_
      refine va_sld hx hb hX hbl hbA hS g_3 dL_law_175 ?_
      rw [hs3]
      refine lv_aload_n hx hb dL_law_176 rfl (lv_at hl 0 rfl) ?_
      refine lv_iload_n hx hb dL_law_177 rfl (lv_at hl 3 rfl) ?_
      refine lv_iconst (v := 4) hx hb dL_law_178 (by decide) ?_
      refine lv_iadd hx hb dL_law_179 ?_
      refine va_sld hx hb hX hbl hbA hS g_4 dL_law_180 ?_
      rw [hs4]
      have hP : va_P G vwCl ([] ++ (mo_W cy g a b0 t vn vf vs vp vq vd vo un uf us up uq ud uo tm tx hc hh ss sv ++ md_W cy d mn mf mk mg mv mt mm)) H := hP
      have hD : va_D (fun q : Nat => s.heap.size ≤ q) ([] ++ (mo_W cy g a b0 t vn vf vs vp vq vd vo un uf us up uq ud uo tm tx hc hh ss sv ++ md_W cy d mn mf mk mg mv mt mm)) := hD
      refine kc_Vi (L := []) (w0 := mo_W cy g a b0 t vn vf vs vp vq vd vo un uf us up uq ud uo tm tx hc hh ss sv) (R' := md_W cy d mn mf mk mg mv mt mm) (As := [.int s1, .int s2, .int s3, .int s4]) (rest := []) S hE (ctX6_place l G cy g a b0 t vn vf vs vp vq vd vo un uf us up uq ud uo tm tx hc hh ss sv s1 s2 s3 s4 _ h) q_4_21 q_4_22 q_4_23 q_1_2 q_5_0 rfl 0 rfl rfl ydX6_place ⟨⟨rfl, rfl⟩, ⟨Nat.le_of_ble_eq_true rfl, Nat.le_of_ble_eq_true rfl⟩⟩ ⟨Nat.le_refl _, Nat.le_refl _⟩ hP hD hS rfl hl.1 rfl (Nat.le_of_ble_eq_true rfl) dL_law_181 (fun r u H locs h hP hD hS => ?_)
      refine lv_aload_n hx hb dL_law_184 rfl (lv_at hl 2 rfl) ?_
      refine lv_aload_n hx hb dL_law_185 rfl (lv_at hl 0 rfl) ?_
      refine lv_iload_n hx hb dL_law_186 rfl (lv_at hl 3 rfl) ?_
      refine lv_iconst (v := 1) hx hb dL_law_187 (by decide) ?_
      refine lv_iadd hx hb dL_law_188 ?_
      refine va_sld hx hb hX hbl hbA hS g_1 dL_law_189 ?_
      rw [hs1]
      refine lv_aload_n hx hb dL_law_190 rfl (lv_at hl 0 rfl) ?_
      refine lv_iload_n hx hb dL_law_191 rfl (lv_at hl 3 rfl) ?_
      refine lv_iconst (v := 2) hx hb dL_law_192 (by decide) ?_
      refine lv_iadd hx hb dL_law_193 ?_
      refine va_sld hx hb hX hbl hbA hS g_2 dL_law_194 ?_
      rw [hs2]
      refine lv_aload_n hx hb dL_law_195 rfl (lv_at hl 0 rfl) ?_
      refine lv_iload_n hx hb dL_law_196 rfl (lv_at hl 3 rfl) ?_
      refine lv_iconst (v := 3) hx hb dL_law_197 (by decide) ?_
      refine lv_iadd hx hb dL_law_198 ?_
      refine va_sld hx hb hX hbl hbA hS g_3 dL_law_199 ?_
      rw [hs3]
      refine lv_aload_n hx hb dL_law_200 rfl (lv_at hl 0 rfl) ?_
      refine lv_iload_n hx hb dL_law_201 rfl (lv_at hl 3 rfl) ?_
      refine lv_iconst (v := 4) hx hb dL_law_202 (by decide) ?_
      refine lv_iadd hx hb dL_law_203 ?_
      refine va_sld hx hb hX hbl hbA hS g_4 dL_law_204 ?_
      rw [hs4]
      have hP : va_P G vwCl (mo_W cy g a b0 t u.1 u.2.1 vs vp vq vd vo un uf us up uq ud uo tm tx u.2.2.1 u.2.2.2 ss sv ++ (md_W cy d mn mf mk mg mv mt mm ++ [])) H := by simpa only [List.append_nil, List.nil_append] using hP
      have hD : va_D (fun q : Nat => s.heap.size ≤ q) (mo_W cy g a b0 t u.1 u.2.1 vs vp vq vd vo un uf us up uq ud uo tm tx u.2.2.1 u.2.2.2 ss sv ++ (md_W cy d mn mf mk mg mv mt mm ++ [])) := by simpa only [List.append_nil, List.nil_append] using hD
      refine kc_Vi (L := mo_W cy g a b0 t u.1 u.2.1 vs vp vq vd vo un uf us up uq ud uo tm tx u.2.2.1 u.2.2.2 ss sv) (w0 := md_W cy d mn mf mk mg mv mt mm) (R' := []) (As := [.int s1, .int s2, .int s3, .int s4]) (rest := [.int r]) S hE (ctX7_place l G cy d mn mf mk mg mv mt mm s1 s2 s3 s4 _ h) q_8_11 q_8_12 q_8_13 q_1_5 q_8_14 rfl 0 rfl rfl ydX7_place ⟨⟨rfl, rfl⟩, ⟨Nat.le_of_ble_eq_true rfl, Nat.le_of_ble_eq_true rfl⟩⟩ ⟨Nat.le_refl _, Nat.le_refl _⟩ hP hD hS rfl hl.1 rfl (Nat.le_of_ble_eq_true rfl) dL_law_205 (fun q z H locs h hP hD hS => ?_)
      have hP : va_P G vwCl (mo_W cy g a b0 t u.1 u.2.1 vs vp vq vd vo un uf us up uq ud uo tm tx u.2.2.1 u.2.2.2 ss sv ++ md_W cy d z.1 z.2.1 z.2.2.1 z.2.2.2.1 mv mt z.2.2.2.2) H := by simpa only [List.append_nil] using hP
      have hD : va_D (fun q : Nat => s.heap.size ≤ q) (mo_W cy g a b0 t u.1 u.2.1 vs vp vq vd vo un uf us up uq ud uo tm tx u.2.2.1 u.2.2.2 ss sv ++ md_W cy d z.1 z.2.1 z.2.2.1 z.2.2.2.1 mv mt z.2.2.2.2) := by simpa only [List.append_nil] using hD
      refine lv_icmp_eq (tgt := 810) hx hb dL_law_208 (by decide) (fun _ => ?_) (fun q => absurd h.1 q)
      exact J _ _ _ _ _ _ _ _ _ _ _ _ _ _ _ _ _ _ _ _ _ _ _ _ _ _ _ h.2 H locs ls hP hD hS hl
    rcases Classical.em (x = 1) with e_1 | e_1
    · refine lv_tableIn (tgt := 213) hx hb dL_law_32 (by rw [e_1]; decide) (by rw [e_1]; decide) (by rw [e_1]; rfl) (by decide) ?_
      have h := hop.2.1 vn vf vs vp vq vd vo un uf us up uq ud uo tm tx hc hh ss sv mn mf mk mg mv mt mm s1 s2 hI
      refine lv_aload_n hx hb dL_law_213 rfl (lv_at hl 1 rfl) ?_
      refine lv_aload_n hx hb dL_law_214 rfl (lv_at hl 0 rfl) ?_
      refine lv_iload_n hx hb dL_law_215 rfl (lv_at hl 3 rfl) ?_
      refine lv_iconst (v := 1) hx hb dL_law_216 (by decide) ?_
      refine lv_iadd hx hb dL_law_217 ?_
      refine va_sld hx hb hX hbl hbA hS g_1 dL_law_218 ?_
      rw [hs1]
      refine lv_aload_n hx hb dL_law_219 rfl (lv_at hl 0 rfl) ?_
      refine lv_iload_n hx hb dL_law_220 rfl (lv_at hl 3 rfl) ?_
      refine lv_iconst (v := 2) hx hb dL_law_221 (by decide) ?_
      refine lv_iadd hx hb dL_law_222 ?_
      refine va_sld hx hb hX hbl hbA hS g_2 dL_law_223 ?_
      rw [hs2]
      have hP : va_P G vwCl ([] ++ (mo_W cy g a b0 t vn vf vs vp vq vd vo un uf us up uq ud uo tm tx hc hh ss sv ++ md_W cy d mn mf mk mg mv mt mm)) H := hP
      have hD : va_D (fun q : Nat => s.heap.size ≤ q) ([] ++ (mo_W cy g a b0 t vn vf vs vp vq vd vo un uf us up uq ud uo tm tx hc hh ss sv ++ md_W cy d mn mf mk mg mv mt mm)) := hD
      refine kc_ViX (L := []) (w0 := mo_W cy g a b0 t vn vf vs vp vq vd vo un uf us up uq ud uo tm tx hc hh ss sv) (R' := md_W cy d mn mf mk mg mv mt mm) (As := [.int s1, .int s2]) (rest := []) (Ex := xST) S hE xST_ok (ctX6_set l G cy g a b0 t vn vf vs vp vq vd vo un uf us up uq ud uo tm tx hc hh ss sv s1 s2 _ h) q_10_21 q_10_22 q_10_23 q_1_2 q_11_0 rfl 0 rfl rfl ydX6_set ⟨⟨rfl, rfl⟩, ⟨Nat.le_of_ble_eq_true rfl, Nat.le_of_ble_eq_true rfl⟩⟩ ⟨Nat.le_refl _, Nat.le_refl _⟩ hP hD hS (xST_at hEx hS (fx_free hD.mid)) rfl hl.1 rfl (Nat.le_of_ble_eq_true rfl) dL_law_224 (fun r u H locs h hP hD hS => ?_)
      refine lv_aload_n hx hb dL_law_227 rfl (lv_at hl 2 rfl) ?_
      refine lv_aload_n hx hb dL_law_228 rfl (lv_at hl 0 rfl) ?_
      refine lv_iload_n hx hb dL_law_229 rfl (lv_at hl 3 rfl) ?_
      refine lv_iconst (v := 1) hx hb dL_law_230 (by decide) ?_
      refine lv_iadd hx hb dL_law_231 ?_
      refine va_sld hx hb hX hbl hbA hS g_1 dL_law_232 ?_
      rw [hs1]
      refine lv_aload_n hx hb dL_law_233 rfl (lv_at hl 0 rfl) ?_
      refine lv_iload_n hx hb dL_law_234 rfl (lv_at hl 3 rfl) ?_
      refine lv_iconst (v := 2) hx hb dL_law_235 (by decide) ?_
      refine lv_iadd hx hb dL_law_236 ?_
      refine va_sld hx hb hX hbl hbA hS g_2 dL_law_237 ?_
      rw [hs2]
      have hP : va_P G vwCl (mo_W cy g a b0 t vn vf u.1 vp vq vd vo un uf us up uq ud uo tm tx u.2.1 u.2.2 ss sv ++ (md_W cy d mn mf mk mg mv mt mm ++ [])) H := by simpa only [List.append_nil, List.nil_append] using hP
      have hD : va_D (fun q : Nat => s.heap.size ≤ q) (mo_W cy g a b0 t vn vf u.1 vp vq vd vo un uf us up uq ud uo tm tx u.2.1 u.2.2 ss sv ++ (md_W cy d mn mf mk mg mv mt mm ++ [])) := by simpa only [List.append_nil, List.nil_append] using hD
      refine kc_Vi (L := mo_W cy g a b0 t vn vf u.1 vp vq vd vo un uf us up uq ud uo tm tx u.2.1 u.2.2 ss sv) (w0 := md_W cy d mn mf mk mg mv mt mm) (R' := []) (As := [.int s1, .int s2]) (rest := [.int r]) S hE (ctX7_set l G cy d mn mf mk mg mv mt mm s1 s2 _ h) q_11_4 q_11_5 q_11_6 q_1_5 q_11_7 rfl 0 rfl rfl ydX7_set ⟨⟨rfl, rfl⟩, ⟨Nat.le_of_ble_eq_true rfl, Nat.le_of_ble_eq_true rfl⟩⟩ ⟨Nat.le_refl _, Nat.le_refl _⟩ hP hD hS rfl hl.1 rfl (Nat.le_of_ble_eq_true rfl) dL_law_238 (fun q z H locs h hP hD hS => ?_)
      have hP : va_P G vwCl (mo_W cy g a b0 t vn vf u.1 vp vq vd vo un uf us up uq ud uo tm tx u.2.1 u.2.2 ss sv ++ md_W cy d z.1 mf z.2.1 z.2.2.1 mv mt z.2.2.2) H := by simpa only [List.append_nil] using hP
      have hD : va_D (fun q : Nat => s.heap.size ≤ q) (mo_W cy g a b0 t vn vf u.1 vp vq vd vo un uf us up uq ud uo tm tx u.2.1 u.2.2 ss sv ++ md_W cy d z.1 mf z.2.1 z.2.2.1 mv mt z.2.2.2) := by simpa only [List.append_nil] using hD
      refine lv_icmp_eq (tgt := 810) hx hb dL_law_241 (by decide) (fun _ => ?_) (fun q => absurd h.1 q)
      exact J _ _ _ _ _ _ _ _ _ _ _ _ _ _ _ _ _ _ _ _ _ _ _ _ _ _ _ h.2 H locs ls hP hD hS hl
    rcases Classical.em (x = 2) with e_2 | e_2
    · refine lv_tableIn (tgt := 246) hx hb dL_law_32 (by rw [e_2]; decide) (by rw [e_2]; decide) (by rw [e_2]; rfl) (by decide) ?_
      have h := hop.2.2.1 vn vf vs vp vq vd vo un uf us up uq ud uo tm tx hc hh ss sv mn mf mk mg mv mt mm s1 s2 hI
      refine lv_aload_n hx hb dL_law_246 rfl (lv_at hl 1 rfl) ?_
      refine lv_aload_n hx hb dL_law_247 rfl (lv_at hl 0 rfl) ?_
      refine lv_iload_n hx hb dL_law_248 rfl (lv_at hl 3 rfl) ?_
      refine lv_iconst (v := 1) hx hb dL_law_249 (by decide) ?_
      refine lv_iadd hx hb dL_law_250 ?_
      refine va_sld hx hb hX hbl hbA hS g_1 dL_law_251 ?_
      rw [hs1]
      refine lv_aload_n hx hb dL_law_252 rfl (lv_at hl 0 rfl) ?_
      refine lv_iload_n hx hb dL_law_253 rfl (lv_at hl 3 rfl) ?_
      refine lv_iconst (v := 2) hx hb dL_law_254 (by decide) ?_
      refine lv_iadd hx hb dL_law_255 ?_
      refine va_sld hx hb hX hbl hbA hS g_2 dL_law_256 ?_
      rw [hs2]
      have hP : va_P G vwCl ([] ++ (mo_W cy g a b0 t vn vf vs vp vq vd vo un uf us up uq ud uo tm tx hc hh ss sv ++ md_W cy d mn mf mk mg mv mt mm)) H := hP
      have hD : va_D (fun q : Nat => s.heap.size ≤ q) ([] ++ (mo_W cy g a b0 t vn vf vs vp vq vd vo un uf us up uq ud uo tm tx hc hh ss sv ++ md_W cy d mn mf mk mg mv mt mm)) := hD
      refine kc_Vi (L := []) (w0 := mo_W cy g a b0 t vn vf vs vp vq vd vo un uf us up uq ud uo tm tx hc hh ss sv) (R' := md_W cy d mn mf mk mg mv mt mm) (As := [.int s1, .int s2]) (rest := []) S hE (ctX6_setPoint l G cy g a b0 t vn vf vs vp vq vd vo un uf us up uq ud uo tm tx hc hh ss sv s1 s2 _ h) q_11_14 q_11_15 q_11_16 q_1_2 q_11_17 rfl 0 rfl rfl ydX6_setPoint ⟨⟨rfl, rfl⟩, ⟨Nat.le_of_ble_eq_true rfl, Nat.le_of_ble_eq_true rfl⟩⟩ ⟨Nat.le_refl _, Nat.le_refl _⟩ hP hD hS rfl hl.1 rfl (Nat.le_of_ble_eq_true rfl) dL_law_257 (fun r u H locs h hP hD hS => ?_)
      refine lv_aload_n hx hb dL_law_260 rfl (lv_at hl 2 rfl) ?_
      refine lv_aload_n hx hb dL_law_261 rfl (lv_at hl 0 rfl) ?_
      refine lv_iload_n hx hb dL_law_262 rfl (lv_at hl 3 rfl) ?_
      refine lv_iconst (v := 1) hx hb dL_law_263 (by decide) ?_
      refine lv_iadd hx hb dL_law_264 ?_
      refine va_sld hx hb hX hbl hbA hS g_1 dL_law_265 ?_
      rw [hs1]
      refine lv_aload_n hx hb dL_law_266 rfl (lv_at hl 0 rfl) ?_
      refine lv_iload_n hx hb dL_law_267 rfl (lv_at hl 3 rfl) ?_
      refine lv_iconst (v := 2) hx hb dL_law_268 (by decide) ?_
      refine lv_iadd hx hb dL_law_269 ?_
      refine va_sld hx hb hX hbl hbA hS g_2 dL_law_270 ?_
      rw [hs2]
      have hP : va_P G vwCl (mo_W cy g a b0 t u.1 vf vs u.2.1 u.2.2.1 vd vo un uf us up uq ud uo tm tx u.2.2.2.1 u.2.2.2.2 ss sv ++ (md_W cy d mn mf mk mg mv mt mm ++ [])) H := by simpa only [List.append_nil, List.nil_append] using hP
      have hD : va_D (fun q : Nat => s.heap.size ≤ q) (mo_W cy g a b0 t u.1 vf vs u.2.1 u.2.2.1 vd vo un uf us up uq ud uo tm tx u.2.2.2.1 u.2.2.2.2 ss sv ++ (md_W cy d mn mf mk mg mv mt mm ++ [])) := by simpa only [List.append_nil, List.nil_append] using hD
      refine kc_Vi (L := mo_W cy g a b0 t u.1 vf vs u.2.1 u.2.2.1 vd vo un uf us up uq ud uo tm tx u.2.2.2.1 u.2.2.2.2 ss sv) (w0 := md_W cy d mn mf mk mg mv mt mm) (R' := []) (As := [.int s1, .int s2]) (rest := [.int r]) S hE (ctX7_setPoint l G cy d mn mf mk mg mv mt mm s1 s2 _ h) q_12_8 q_12_9 q_12_10 q_1_5 q_12_11 rfl 0 rfl rfl ydX7_setPoint ⟨⟨rfl, rfl⟩, ⟨Nat.le_of_ble_eq_true rfl, Nat.le_of_ble_eq_true rfl⟩⟩ ⟨Nat.le_refl _, Nat.le_refl _⟩ hP hD hS rfl hl.1 rfl (Nat.le_of_ble_eq_true rfl) dL_law_271 (fun q z H locs h hP hD hS => ?_)
      have hP : va_P G vwCl (mo_W cy g a b0 t u.1 vf vs u.2.1 u.2.2.1 vd vo un uf us up uq ud uo tm tx u.2.2.2.1 u.2.2.2.2 ss sv ++ md_W cy d z.1 mf z.2.1 z.2.2.1 mv mt z.2.2.2) H := by simpa only [List.append_nil] using hP
      have hD : va_D (fun q : Nat => s.heap.size ≤ q) (mo_W cy g a b0 t u.1 vf vs u.2.1 u.2.2.1 vd vo un uf us up uq ud uo tm tx u.2.2.2.1 u.2.2.2.2 ss sv ++ md_W cy d z.1 mf z.2.1 z.2.2.1 mv mt z.2.2.2) := by simpa only [List.append_nil] using hD
      refine lv_icmp_eq (tgt := 810) hx hb dL_law_274 (by decide) (fun _ => ?_) (fun q => absurd h.1 q)
      exact J _ _ _ _ _ _ _ _ _ _ _ _ _ _ _ _ _ _ _ _ _ _ _ _ _ _ _ h.2 H locs ls hP hD hS hl
    rcases Classical.em (x = 3) with e_3 | e_3
    · refine lv_tableIn (tgt := 279) hx hb dL_law_32 (by rw [e_3]; decide) (by rw [e_3]; decide) (by rw [e_3]; rfl) (by decide) ?_
      have h := hop.2.2.2.1 vn vf vs vp vq vd vo un uf us up uq ud uo tm tx hc hh ss sv mn mf mk mg mv mt mm s1 hI
      refine lv_aload_n hx hb dL_law_279 rfl (lv_at hl 1 rfl) ?_
      refine lv_aload_n hx hb dL_law_280 rfl (lv_at hl 0 rfl) ?_
      refine lv_iload_n hx hb dL_law_281 rfl (lv_at hl 3 rfl) ?_
      refine lv_iconst (v := 1) hx hb dL_law_282 (by decide) ?_
      refine lv_iadd hx hb dL_law_283 ?_
      refine va_sld hx hb hX hbl hbA hS g_1 dL_law_284 ?_
      rw [hs1]
      have hP : va_P G vwCl ([] ++ (mo_W cy g a b0 t vn vf vs vp vq vd vo un uf us up uq ud uo tm tx hc hh ss sv ++ md_W cy d mn mf mk mg mv mt mm)) H := hP
      have hD : va_D (fun q : Nat => s.heap.size ≤ q) ([] ++ (mo_W cy g a b0 t vn vf vs vp vq vd vo un uf us up uq ud uo tm tx hc hh ss sv ++ md_W cy d mn mf mk mg mv mt mm)) := hD
      refine kc_Vi (L := []) (w0 := mo_W cy g a b0 t vn vf vs vp vq vd vo un uf us up uq ud uo tm tx hc hh ss sv) (R' := md_W cy d mn mf mk mg mv mt mm) (As := [.int s1]) (rest := []) S hE (ctX6_addStop l G cy g a b0 t vn vf vs vp vq vd vo un uf us up uq ud uo tm tx hc hh ss sv s1 _ h) q_12_12 q_12_13 q_12_14 q_1_2 q_12_15 rfl 0 rfl rfl ydX6_addStop ⟨⟨rfl, rfl⟩, ⟨Nat.le_of_ble_eq_true rfl, Nat.le_of_ble_eq_true rfl⟩⟩ ⟨Nat.le_refl _, Nat.le_refl _⟩ hP hD hS rfl hl.1 rfl (Nat.le_of_ble_eq_true rfl) dL_law_285 (fun r u H locs h hP hD hS => ?_)
      refine lv_aload_n hx hb dL_law_288 rfl (lv_at hl 2 rfl) ?_
      refine lv_aload_n hx hb dL_law_289 rfl (lv_at hl 0 rfl) ?_
      refine lv_iload_n hx hb dL_law_290 rfl (lv_at hl 3 rfl) ?_
      refine lv_iconst (v := 1) hx hb dL_law_291 (by decide) ?_
      refine lv_iadd hx hb dL_law_292 ?_
      refine va_sld hx hb hX hbl hbA hS g_1 dL_law_293 ?_
      rw [hs1]
      have hP : va_P G vwCl (mo_W cy g a b0 t u.1 vf vs vp vq u.2.1 u.2.2.1 un uf us up uq ud uo tm tx u.2.2.2.1 u.2.2.2.2 ss sv ++ (md_W cy d mn mf mk mg mv mt mm ++ [])) H := by simpa only [List.append_nil, List.nil_append] using hP
      have hD : va_D (fun q : Nat => s.heap.size ≤ q) (mo_W cy g a b0 t u.1 vf vs vp vq u.2.1 u.2.2.1 un uf us up uq ud uo tm tx u.2.2.2.1 u.2.2.2.2 ss sv ++ (md_W cy d mn mf mk mg mv mt mm ++ [])) := by simpa only [List.append_nil, List.nil_append] using hD
      refine kc_Vi (L := mo_W cy g a b0 t u.1 vf vs vp vq u.2.1 u.2.2.1 un uf us up uq ud uo tm tx u.2.2.2.1 u.2.2.2.2 ss sv) (w0 := md_W cy d mn mf mk mg mv mt mm) (R' := []) (As := [.int s1]) (rest := [.int r]) S hE (ctX7_addStop l G cy d mn mf mk mg mv mt mm s1 _ h) q_12_22 q_12_23 q_13_0 q_1_5 q_13_1 rfl 0 rfl rfl ydX7_addStop ⟨⟨rfl, rfl⟩, ⟨Nat.le_of_ble_eq_true rfl, Nat.le_of_ble_eq_true rfl⟩⟩ ⟨Nat.le_refl _, Nat.le_refl _⟩ hP hD hS rfl hl.1 rfl (Nat.le_of_ble_eq_true rfl) dL_law_294 (fun q z H locs h hP hD hS => ?_)
      have hP : va_P G vwCl (mo_W cy g a b0 t u.1 vf vs vp vq u.2.1 u.2.2.1 un uf us up uq ud uo tm tx u.2.2.2.1 u.2.2.2.2 ss sv ++ md_W cy d z.1 mf z.2.1 z.2.2.1 mv mt z.2.2.2) H := by simpa only [List.append_nil] using hP
      have hD : va_D (fun q : Nat => s.heap.size ≤ q) (mo_W cy g a b0 t u.1 vf vs vp vq u.2.1 u.2.2.1 un uf us up uq ud uo tm tx u.2.2.2.1 u.2.2.2.2 ss sv ++ md_W cy d z.1 mf z.2.1 z.2.2.1 mv mt z.2.2.2) := by simpa only [List.append_nil] using hD
      refine lv_icmp_eq (tgt := 810) hx hb dL_law_297 (by decide) (fun _ => ?_) (fun q => absurd h.1 q)
      exact J _ _ _ _ _ _ _ _ _ _ _ _ _ _ _ _ _ _ _ _ _ _ _ _ _ _ _ h.2 H locs ls hP hD hS hl
    rcases Classical.em (x = 4) with e_4 | e_4
    · refine lv_tableIn (tgt := 302) hx hb dL_law_32 (by rw [e_4]; decide) (by rw [e_4]; decide) (by rw [e_4]; rfl) (by decide) ?_
      rcases Classical.em (s1 = 0) with cb | cb
      · skip
        have h := hop.2.2.2.2.1 vn vf vs vp vq vd vo un uf us up uq ud uo tm tx hc hh ss sv mn mf mk mg mv mt mm s1 s2 hI
        have eb : (if s1 = 0 then (0 : Int32) else 1) = 0 := if_pos cb
        rw [eb] at h
        refine lv_aload_n hx hb dL_law_302 rfl (lv_at hl 1 rfl) ?_
        refine lv_aload_n hx hb dL_law_303 rfl (lv_at hl 0 rfl) ?_
        refine lv_iload_n hx hb dL_law_304 rfl (lv_at hl 3 rfl) ?_
        refine lv_iconst (v := 1) hx hb dL_law_305 (by decide) ?_
        refine lv_iadd hx hb dL_law_306 ?_
        refine va_sld hx hb hX hbl hbA hS g_1 dL_law_307 ?_
        rw [hs1]
        refine lv_if_eq (tgt := 315) hx hb dL_law_308 (by decide) (fun _ => ?_) (fun q => absurd cb q)
        refine lv_iconst (v := 0) hx hb dL_law_315 (by decide) ?_
        refine lv_aload_n hx hb dL_law_316 rfl (lv_at hl 0 rfl) ?_
        refine lv_iload_n hx hb dL_law_317 rfl (lv_at hl 3 rfl) ?_
        refine lv_iconst (v := 2) hx hb dL_law_318 (by decide) ?_
        refine lv_iadd hx hb dL_law_319 ?_
        refine va_sld hx hb hX hbl hbA hS g_2 dL_law_320 ?_
        rw [hs2]
        have hP : va_P G vwCl ([] ++ (mo_W cy g a b0 t vn vf vs vp vq vd vo un uf us up uq ud uo tm tx hc hh ss sv ++ md_W cy d mn mf mk mg mv mt mm)) H := hP
        have hD : va_D (fun q : Nat => s.heap.size ≤ q) ([] ++ (mo_W cy g a b0 t vn vf vs vp vq vd vo un uf us up uq ud uo tm tx hc hh ss sv ++ md_W cy d mn mf mk mg mv mt mm)) := hD
        refine kc_Vi (L := []) (w0 := mo_W cy g a b0 t vn vf vs vp vq vd vo un uf us up uq ud uo tm tx hc hh ss sv) (R' := md_W cy d mn mf mk mg mv mt mm) (As := [.int 0, .int s2]) (rest := []) S hE (ctX6_setBias l G cy g a b0 t vn vf vs vp vq vd vo un uf us up uq ud uo tm tx hc hh ss sv 0 s2 _ h) q_13_2 q_13_3 q_13_4 q_1_2 q_13_5 rfl 0 rfl rfl ydX6_setBias ⟨⟨rfl, rfl⟩, ⟨Nat.le_of_ble_eq_true rfl, Nat.le_of_ble_eq_true rfl⟩⟩ ⟨Nat.le_refl _, Nat.le_refl _⟩ hP hD hS rfl hl.1 rfl (Nat.le_of_ble_eq_true rfl) dL_law_321 (fun r u H locs h hP hD hS => ?_)
        refine lv_aload_n hx hb dL_law_324 rfl (lv_at hl 2 rfl) ?_
        refine lv_aload_n hx hb dL_law_325 rfl (lv_at hl 0 rfl) ?_
        refine lv_iload_n hx hb dL_law_326 rfl (lv_at hl 3 rfl) ?_
        refine lv_iconst (v := 1) hx hb dL_law_327 (by decide) ?_
        refine lv_iadd hx hb dL_law_328 ?_
        refine va_sld hx hb hX hbl hbA hS g_1 dL_law_329 ?_
        rw [hs1]
        refine lv_if_eq (tgt := 337) hx hb dL_law_330 (by decide) (fun _ => ?_) (fun q => absurd cb q)
        refine lv_iconst (v := 0) hx hb dL_law_337 (by decide) ?_
        refine lv_aload_n hx hb dL_law_338 rfl (lv_at hl 0 rfl) ?_
        refine lv_iload_n hx hb dL_law_339 rfl (lv_at hl 3 rfl) ?_
        refine lv_iconst (v := 2) hx hb dL_law_340 (by decide) ?_
        refine lv_iadd hx hb dL_law_341 ?_
        refine va_sld hx hb hX hbl hbA hS g_2 dL_law_342 ?_
        rw [hs2]
        have hP : va_P G vwCl (mo_W cy g a b0 t u.1 vf vs vp vq vd vo un uf us up uq ud uo tm tx u.2.1 u.2.2 ss sv ++ (md_W cy d mn mf mk mg mv mt mm ++ [])) H := by simpa only [List.append_nil, List.nil_append] using hP
        have hD : va_D (fun q : Nat => s.heap.size ≤ q) (mo_W cy g a b0 t u.1 vf vs vp vq vd vo un uf us up uq ud uo tm tx u.2.1 u.2.2 ss sv ++ (md_W cy d mn mf mk mg mv mt mm ++ [])) := by simpa only [List.append_nil, List.nil_append] using hD
        refine kc_Vi (L := mo_W cy g a b0 t u.1 vf vs vp vq vd vo un uf us up uq ud uo tm tx u.2.1 u.2.2 ss sv) (w0 := md_W cy d mn mf mk mg mv mt mm) (R' := []) (As := [.int 0, .int s2]) (rest := [.int r]) S hE (ctX7_setBias l G cy d mn mf mk mg mv mt mm 0 s2 _ h) q_13_10 q_13_11 q_13_12 q_1_5 q_13_13 rfl 0 rfl rfl ydX7_setBias ⟨⟨rfl, rfl⟩, ⟨Nat.le_of_ble_eq_true rfl, Nat.le_of_ble_eq_true rfl⟩⟩ ⟨Nat.le_refl _, Nat.le_refl _⟩ hP hD hS rfl hl.1 rfl (Nat.le_of_ble_eq_true rfl) dL_law_343 (fun q z H locs h hP hD hS => ?_)
        have hP : va_P G vwCl (mo_W cy g a b0 t u.1 vf vs vp vq vd vo un uf us up uq ud uo tm tx u.2.1 u.2.2 ss sv ++ md_W cy d z.1 mf z.2.1 z.2.2.1 mv mt z.2.2.2) H := by simpa only [List.append_nil] using hP
        have hD : va_D (fun q : Nat => s.heap.size ≤ q) (mo_W cy g a b0 t u.1 vf vs vp vq vd vo un uf us up uq ud uo tm tx u.2.1 u.2.2 ss sv ++ md_W cy d z.1 mf z.2.1 z.2.2.1 mv mt z.2.2.2) := by simpa only [List.append_nil] using hD
        refine lv_icmp_eq (tgt := 810) hx hb dL_law_346 (by decide) (fun _ => ?_) (fun q => absurd h.1 q)
        exact J _ _ _ _ _ _ _ _ _ _ _ _ _ _ _ _ _ _ _ _ _ _ _ _ _ _ _ h.2 H locs ls hP hD hS hl
      · skip
        have h := hop.2.2.2.2.1 vn vf vs vp vq vd vo un uf us up uq ud uo tm tx hc hh ss sv mn mf mk mg mv mt mm s1 s2 hI
        have eb : (if s1 = 0 then (0 : Int32) else 1) = 1 := if_neg cb
        rw [eb] at h
        refine lv_aload_n hx hb dL_law_302 rfl (lv_at hl 1 rfl) ?_
        refine lv_aload_n hx hb dL_law_303 rfl (lv_at hl 0 rfl) ?_
        refine lv_iload_n hx hb dL_law_304 rfl (lv_at hl 3 rfl) ?_
        refine lv_iconst (v := 1) hx hb dL_law_305 (by decide) ?_
        refine lv_iadd hx hb dL_law_306 ?_
        refine va_sld hx hb hX hbl hbA hS g_1 dL_law_307 ?_
        rw [hs1]
        refine lv_if_eq (tgt := 315) hx hb dL_law_308 (by decide) (fun q => absurd q cb) (fun _ => ?_)
        refine lv_iconst (v := 1) hx hb dL_law_311 (by decide) ?_
        refine lv_goto (tgt := 316) hx hb dL_law_312 (by decide) ?_
        refine lv_aload_n hx hb dL_law_316 rfl (lv_at hl 0 rfl) ?_
        refine lv_iload_n hx hb dL_law_317 rfl (lv_at hl 3 rfl) ?_
        refine lv_iconst (v := 2) hx hb dL_law_318 (by decide) ?_
        refine lv_iadd hx hb dL_law_319 ?_
        refine va_sld hx hb hX hbl hbA hS g_2 dL_law_320 ?_
        rw [hs2]
        have hP : va_P G vwCl ([] ++ (mo_W cy g a b0 t vn vf vs vp vq vd vo un uf us up uq ud uo tm tx hc hh ss sv ++ md_W cy d mn mf mk mg mv mt mm)) H := hP
        have hD : va_D (fun q : Nat => s.heap.size ≤ q) ([] ++ (mo_W cy g a b0 t vn vf vs vp vq vd vo un uf us up uq ud uo tm tx hc hh ss sv ++ md_W cy d mn mf mk mg mv mt mm)) := hD
        refine kc_Vi (L := []) (w0 := mo_W cy g a b0 t vn vf vs vp vq vd vo un uf us up uq ud uo tm tx hc hh ss sv) (R' := md_W cy d mn mf mk mg mv mt mm) (As := [.int 1, .int s2]) (rest := []) S hE (ctX6_setBias l G cy g a b0 t vn vf vs vp vq vd vo un uf us up uq ud uo tm tx hc hh ss sv 1 s2 _ h) q_13_2 q_13_3 q_13_4 q_1_2 q_13_5 rfl 0 rfl rfl ydX6_setBias ⟨⟨rfl, rfl⟩, ⟨Nat.le_of_ble_eq_true rfl, Nat.le_of_ble_eq_true rfl⟩⟩ ⟨Nat.le_refl _, Nat.le_refl _⟩ hP hD hS rfl hl.1 rfl (Nat.le_of_ble_eq_true rfl) dL_law_321 (fun r u H locs h hP hD hS => ?_)
        refine lv_aload_n hx hb dL_law_324 rfl (lv_at hl 2 rfl) ?_
        refine lv_aload_n hx hb dL_law_325 rfl (lv_at hl 0 rfl) ?_
        refine lv_iload_n hx hb dL_law_326 rfl (lv_at hl 3 rfl) ?_
        refine lv_iconst (v := 1) hx hb dL_law_327 (by decide) ?_
        refine lv_iadd hx hb dL_law_328 ?_
        refine va_sld hx hb hX hbl hbA hS g_1 dL_law_329 ?_
        rw [hs1]
        refine lv_if_eq (tgt := 337) hx hb dL_law_330 (by decide) (fun q => absurd q cb) (fun _ => ?_)
        refine lv_iconst (v := 1) hx hb dL_law_333 (by decide) ?_
        refine lv_goto (tgt := 338) hx hb dL_law_334 (by decide) ?_
        refine lv_aload_n hx hb dL_law_338 rfl (lv_at hl 0 rfl) ?_
        refine lv_iload_n hx hb dL_law_339 rfl (lv_at hl 3 rfl) ?_
        refine lv_iconst (v := 2) hx hb dL_law_340 (by decide) ?_
        refine lv_iadd hx hb dL_law_341 ?_
        refine va_sld hx hb hX hbl hbA hS g_2 dL_law_342 ?_
        rw [hs2]
        have hP : va_P G vwCl (mo_W cy g a b0 t u.1 vf vs vp vq vd vo un uf us up uq ud uo tm tx u.2.1 u.2.2 ss sv ++ (md_W cy d mn mf mk mg mv mt mm ++ [])) H := by simpa only [List.append_nil, List.nil_append] using hP
        have hD : va_D (fun q : Nat => s.heap.size ≤ q) (mo_W cy g a b0 t u.1 vf vs vp vq vd vo un uf us up uq ud uo tm tx u.2.1 u.2.2 ss sv ++ (md_W cy d mn mf mk mg mv mt mm ++ [])) := by simpa only [List.append_nil, List.nil_append] using hD
        refine kc_Vi (L := mo_W cy g a b0 t u.1 vf vs vp vq vd vo un uf us up uq ud uo tm tx u.2.1 u.2.2 ss sv) (w0 := md_W cy d mn mf mk mg mv mt mm) (R' := []) (As := [.int 1, .int s2]) (rest := [.int r]) S hE (ctX7_setBias l G cy d mn mf mk mg mv mt mm 1 s2 _ h) q_13_10 q_13_11 q_13_12 q_1_5 q_13_13 rfl 0 rfl rfl ydX7_setBias ⟨⟨rfl, rfl⟩, ⟨Nat.le_of_ble_eq_true rfl, Nat.le_of_ble_eq_true rfl⟩⟩ ⟨Nat.le_refl _, Nat.le_refl _⟩ hP hD hS rfl hl.1 rfl (Nat.le_of_ble_eq_true rfl) dL_law_343 (fun q z H locs h hP hD hS => ?_)
        have hP : va_P G vwCl (mo_W cy g a b0 t u.1 vf vs vp vq vd vo un uf us up uq ud uo tm tx u.2.1 u.2.2 ss sv ++ md_W cy d z.1 mf z.2.1 z.2.2.1 mv mt z.2.2.2) H := by simpa only [List.append_nil] using hP
        have hD : va_D (fun q : Nat => s.heap.size ≤ q) (mo_W cy g a b0 t u.1 vf vs vp vq vd vo un uf us up uq ud uo tm tx u.2.1 u.2.2 ss sv ++ md_W cy d z.1 mf z.2.1 z.2.2.1 mv mt z.2.2.2) := by simpa only [List.append_nil] using hD
        refine lv_icmp_eq (tgt := 810) hx hb dL_law_346 (by decide) (fun _ => ?_) (fun q => absurd h.1 q)
        exact J _ _ _ _ _ _ _ _ _ _ _ _ _ _ _ _ _ _ _ _ _ _ _ _ _ _ _ h.2 H locs ls hP hD hS hl
    rcases Classical.em (x = 5) with e_5 | e_5
    · refine lv_tableIn (tgt := 351) hx hb dL_law_32 (by rw [e_5]; decide) (by rw [e_5]; decide) (by rw [e_5]; rfl) (by decide) ?_
      have h := hop.2.2.2.2.2.1 vn vf vs vp vq vd vo un uf us up uq ud uo tm tx hc hh ss sv mn mf mk mg mv mt mm  hI
      refine lv_aload_n hx hb dL_law_351 rfl (lv_at hl 1 rfl) ?_
      have hP : va_P G vwCl ([] ++ (mo_W cy g a b0 t vn vf vs vp vq vd vo un uf us up uq ud uo tm tx hc hh ss sv ++ md_W cy d mn mf mk mg mv mt mm)) H := hP
      have hD : va_D (fun q : Nat => s.heap.size ≤ q) ([] ++ (mo_W cy g a b0 t vn vf vs vp vq vd vo un uf us up uq ud uo tm tx hc hh ss sv ++ md_W cy d mn mf mk mg mv mt mm)) := hD
      refine kc_Vi (L := []) (w0 := mo_W cy g a b0 t vn vf vs vp vq vd vo un uf us up uq ud uo tm tx hc hh ss sv) (R' := md_W cy d mn mf mk mg mv mt mm) (As := []) (rest := []) S hE (ctX6_approach l G cy g a b0 t vn vf vs vp vq vd vo un uf us up uq ud uo tm tx hc hh ss sv  _ h) q_13_14 q_13_15 q_13_16 q_1_2 q_13_17 rfl 0 rfl rfl ydX6_approach ⟨⟨rfl, rfl⟩, ⟨Nat.le_of_ble_eq_true rfl, Nat.le_of_ble_eq_true rfl⟩⟩ ⟨Nat.le_refl _, Nat.le_refl _⟩ hP hD hS rfl hl.1 rfl (Nat.le_of_ble_eq_true rfl) dL_law_352 (fun r u H locs h hP hD hS => ?_)
      refine lv_aload_n hx hb dL_law_355 rfl (lv_at hl 2 rfl) ?_
      have hP : va_P G vwCl (mo_W cy g a b0 t u.1 u.2.1 vs vp vq vd u.2.2.1 un uf us up uq ud uo tm tx u.2.2.2.1 u.2.2.2.2 ss sv ++ (md_W cy d mn mf mk mg mv mt mm ++ [])) H := by simpa only [List.append_nil, List.nil_append] using hP
      have hD : va_D (fun q : Nat => s.heap.size ≤ q) (mo_W cy g a b0 t u.1 u.2.1 vs vp vq vd u.2.2.1 un uf us up uq ud uo tm tx u.2.2.2.1 u.2.2.2.2 ss sv ++ (md_W cy d mn mf mk mg mv mt mm ++ [])) := by simpa only [List.append_nil, List.nil_append] using hD
      refine kc_Vi (L := mo_W cy g a b0 t u.1 u.2.1 vs vp vq vd u.2.2.1 un uf us up uq ud uo tm tx u.2.2.2.1 u.2.2.2.2 ss sv) (w0 := md_W cy d mn mf mk mg mv mt mm) (R' := []) (As := []) (rest := [.int r]) S hE (ctX7_approach l G cy d mn mf mk mg mv mt mm  _ h) q_18_9 q_18_10 q_18_11 q_1_5 q_18_12 rfl 0 rfl rfl ydX7_approach ⟨⟨rfl, rfl⟩, ⟨Nat.le_of_ble_eq_true rfl, Nat.le_of_ble_eq_true rfl⟩⟩ ⟨Nat.le_refl _, Nat.le_refl _⟩ hP hD hS rfl hl.1 rfl (Nat.le_of_ble_eq_true rfl) dL_law_356 (fun q z H locs h hP hD hS => ?_)
      have hP : va_P G vwCl (mo_W cy g a b0 t u.1 u.2.1 vs vp vq vd u.2.2.1 un uf us up uq ud uo tm tx u.2.2.2.1 u.2.2.2.2 ss sv ++ md_W cy d z.1 mf z.2.1 z.2.2.1 mv mt z.2.2.2) H := by simpa only [List.append_nil] using hP
      have hD : va_D (fun q : Nat => s.heap.size ≤ q) (mo_W cy g a b0 t u.1 u.2.1 vs vp vq vd u.2.2.1 un uf us up uq ud uo tm tx u.2.2.2.1 u.2.2.2.2 ss sv ++ md_W cy d z.1 mf z.2.1 z.2.2.1 mv mt z.2.2.2) := by simpa only [List.append_nil] using hD
      refine lv_icmp_eq (tgt := 810) hx hb dL_law_359 (by decide) (fun _ => ?_) (fun q => absurd h.1 q)
      exact J _ _ _ _ _ _ _ _ _ _ _ _ _ _ _ _ _ _ _ _ _ _ _ _ _ _ _ h.2 H locs ls hP hD hS hl
    rcases Classical.em (x = 6) with e_6 | e_6
    · refine lv_tableIn (tgt := 364) hx hb dL_law_32 (by rw [e_6]; decide) (by rw [e_6]; decide) (by rw [e_6]; rfl) (by decide) ?_
      have h := hop.2.2.2.2.2.2.1 vn vf vs vp vq vd vo un uf us up uq ud uo tm tx hc hh ss sv mn mf mk mg mv mt mm  hI
      refine lv_aload_n hx hb dL_law_364 rfl (lv_at hl 1 rfl) ?_
      have hP : va_P G vwCl ([] ++ (mo_W cy g a b0 t vn vf vs vp vq vd vo un uf us up uq ud uo tm tx hc hh ss sv ++ md_W cy d mn mf mk mg mv mt mm)) H := hP
      have hD : va_D (fun q : Nat => s.heap.size ≤ q) ([] ++ (mo_W cy g a b0 t vn vf vs vp vq vd vo un uf us up uq ud uo tm tx hc hh ss sv ++ md_W cy d mn mf mk mg mv mt mm)) := hD
      refine kc_Vi (L := []) (w0 := mo_W cy g a b0 t vn vf vs vp vq vd vo un uf us up uq ud uo tm tx hc hh ss sv) (R' := md_W cy d mn mf mk mg mv mt mm) (As := []) (rest := []) S hE (ctX6_release l G cy g a b0 t vn vf vs vp vq vd vo un uf us up uq ud uo tm tx hc hh ss sv  _ h) q_19_1 q_19_2 q_19_3 q_1_2 q_19_4 rfl 0 rfl rfl ydX6_release ⟨⟨rfl, rfl⟩, ⟨Nat.le_of_ble_eq_true rfl, Nat.le_of_ble_eq_true rfl⟩⟩ ⟨Nat.le_refl _, Nat.le_refl _⟩ hP hD hS rfl hl.1 rfl (Nat.le_of_ble_eq_true rfl) dL_law_365 (fun r u H locs h hP hD hS => ?_)
      refine lv_aload_n hx hb dL_law_368 rfl (lv_at hl 2 rfl) ?_
      have hP : va_P G vwCl (mo_W cy g a b0 t u.1 u.2.1 vs vp vq vd u.2.2.1 un uf us up uq ud uo tm tx u.2.2.2.1 u.2.2.2.2 ss sv ++ (md_W cy d mn mf mk mg mv mt mm ++ [])) H := by simpa only [List.append_nil, List.nil_append] using hP
      have hD : va_D (fun q : Nat => s.heap.size ≤ q) (mo_W cy g a b0 t u.1 u.2.1 vs vp vq vd u.2.2.1 un uf us up uq ud uo tm tx u.2.2.2.1 u.2.2.2.2 ss sv ++ (md_W cy d mn mf mk mg mv mt mm ++ [])) := by simpa only [List.append_nil, List.nil_append] using hD
      refine kc_Vi (L := mo_W cy g a b0 t u.1 u.2.1 vs vp vq vd u.2.2.1 un uf us up uq ud uo tm tx u.2.2.2.1 u.2.2.2.2 ss sv) (w0 := md_W cy d mn mf mk mg mv mt mm) (R' := []) (As := []) (rest := [.int r]) S hE (ctX7_release l G cy d mn mf mk mg mv mt mm  _ h) q_19_5 q_19_6 q_19_7 q_1_5 q_19_8 rfl 0 rfl rfl ydX7_release ⟨⟨rfl, rfl⟩, ⟨Nat.le_of_ble_eq_true rfl, Nat.le_of_ble_eq_true rfl⟩⟩ ⟨Nat.le_refl _, Nat.le_refl _⟩ hP hD hS rfl hl.1 rfl (Nat.le_of_ble_eq_true rfl) dL_law_369 (fun q z H locs h hP hD hS => ?_)
      have hP : va_P G vwCl (mo_W cy g a b0 t u.1 u.2.1 vs vp vq vd u.2.2.1 un uf us up uq ud uo tm tx u.2.2.2.1 u.2.2.2.2 ss sv ++ md_W cy d z.1 mf z.2.1 z.2.2.1 mv mt z.2.2.2) H := by simpa only [List.append_nil] using hP
      have hD : va_D (fun q : Nat => s.heap.size ≤ q) (mo_W cy g a b0 t u.1 u.2.1 vs vp vq vd u.2.2.1 un uf us up uq ud uo tm tx u.2.2.2.1 u.2.2.2.2 ss sv ++ md_W cy d z.1 mf z.2.1 z.2.2.1 mv mt z.2.2.2) := by simpa only [List.append_nil] using hD
      refine lv_icmp_eq (tgt := 810) hx hb dL_law_372 (by decide) (fun _ => ?_) (fun q => absurd h.1 q)
      exact J _ _ _ _ _ _ _ _ _ _ _ _ _ _ _ _ _ _ _ _ _ _ _ _ _ _ _ h.2 H locs ls hP hD hS hl
    rcases Classical.em (x = 7) with e_7 | e_7
    · refine lv_tableIn (tgt := 377) hx hb dL_law_32 (by rw [e_7]; decide) (by rw [e_7]; decide) (by rw [e_7]; rfl) (by decide) ?_
      have h := hop.2.2.2.2.2.2.2.1 vn vf vs vp vq vd vo un uf us up uq ud uo tm tx hc hh ss sv mn mf mk mg mv mt mm  hI
      refine lv_aload_n hx hb dL_law_377 rfl (lv_at hl 1 rfl) ?_
      have hP : va_P G vwCl ([] ++ (mo_W cy g a b0 t vn vf vs vp vq vd vo un uf us up uq ud uo tm tx hc hh ss sv ++ md_W cy d mn mf mk mg mv mt mm)) H := hP
      have hD : va_D (fun q : Nat => s.heap.size ≤ q) ([] ++ (mo_W cy g a b0 t vn vf vs vp vq vd vo un uf us up uq ud uo tm tx hc hh ss sv ++ md_W cy d mn mf mk mg mv mt mm)) := hD
      refine kc_Vi (L := []) (w0 := mo_W cy g a b0 t vn vf vs vp vq vd vo un uf us up uq ud uo tm tx hc hh ss sv) (R' := md_W cy d mn mf mk mg mv mt mm) (As := []) (rest := []) S hE (ctX6_retreat l G cy g a b0 t vn vf vs vp vq vd vo un uf us up uq ud uo tm tx hc hh ss sv  _ h) q_19_9 q_19_10 q_19_11 q_1_2 q_19_12 rfl 0 rfl rfl ydX6_retreat ⟨⟨rfl, rfl⟩, ⟨Nat.le_of_ble_eq_true rfl, Nat.le_of_ble_eq_true rfl⟩⟩ ⟨Nat.le_refl _, Nat.le_refl _⟩ hP hD hS rfl hl.1 rfl (Nat.le_of_ble_eq_true rfl) dL_law_378 (fun r u H locs h hP hD hS => ?_)
      refine lv_aload_n hx hb dL_law_381 rfl (lv_at hl 2 rfl) ?_
      have hP : va_P G vwCl (mo_W cy g a b0 t u.1 u.2.1 vs vp vq vd u.2.2.1 un uf us up uq ud uo tm tx u.2.2.2.1 u.2.2.2.2 ss sv ++ (md_W cy d mn mf mk mg mv mt mm ++ [])) H := by simpa only [List.append_nil, List.nil_append] using hP
      have hD : va_D (fun q : Nat => s.heap.size ≤ q) (mo_W cy g a b0 t u.1 u.2.1 vs vp vq vd u.2.2.1 un uf us up uq ud uo tm tx u.2.2.2.1 u.2.2.2.2 ss sv ++ (md_W cy d mn mf mk mg mv mt mm ++ [])) := by simpa only [List.append_nil, List.nil_append] using hD
      refine kc_Vi (L := mo_W cy g a b0 t u.1 u.2.1 vs vp vq vd u.2.2.1 un uf us up uq ud uo tm tx u.2.2.2.1 u.2.2.2.2 ss sv) (w0 := md_W cy d mn mf mk mg mv mt mm) (R' := []) (As := []) (rest := [.int r]) S hE (ctX7_retreat l G cy d mn mf mk mg mv mt mm  _ h) q_19_13 q_19_14 q_19_15 q_1_5 q_19_16 rfl 0 rfl rfl ydX7_retreat ⟨⟨rfl, rfl⟩, ⟨Nat.le_of_ble_eq_true rfl, Nat.le_of_ble_eq_true rfl⟩⟩ ⟨Nat.le_refl _, Nat.le_refl _⟩ hP hD hS rfl hl.1 rfl (Nat.le_of_ble_eq_true rfl) dL_law_382 (fun q z H locs h hP hD hS => ?_)
      have hP : va_P G vwCl (mo_W cy g a b0 t u.1 u.2.1 vs vp vq vd u.2.2.1 un uf us up uq ud uo tm tx u.2.2.2.1 u.2.2.2.2 ss sv ++ md_W cy d z.1 mf z.2.1 z.2.2.1 mv mt z.2.2.2) H := by simpa only [List.append_nil] using hP
      have hD : va_D (fun q : Nat => s.heap.size ≤ q) (mo_W cy g a b0 t u.1 u.2.1 vs vp vq vd u.2.2.1 un uf us up uq ud uo tm tx u.2.2.2.1 u.2.2.2.2 ss sv ++ md_W cy d z.1 mf z.2.1 z.2.2.1 mv mt z.2.2.2) := by simpa only [List.append_nil] using hD
      refine lv_icmp_eq (tgt := 810) hx hb dL_law_385 (by decide) (fun _ => ?_) (fun q => absurd h.1 q)
      exact J _ _ _ _ _ _ _ _ _ _ _ _ _ _ _ _ _ _ _ _ _ _ _ _ _ _ _ h.2 H locs ls hP hD hS hl
    rcases Classical.em (x = 8) with e_8 | e_8
    · refine lv_tableIn (tgt := 390) hx hb dL_law_32 (by rw [e_8]; decide) (by rw [e_8]; decide) (by rw [e_8]; rfl) (by decide) ?_
      have h := hop.2.2.2.2.2.2.2.2.1 vn vf vs vp vq vd vo un uf us up uq ud uo tm tx hc hh ss sv mn mf mk mg mv mt mm s1 hI
      refine lv_aload_n hx hb dL_law_390 rfl (lv_at hl 1 rfl) ?_
      refine lv_aload_n hx hb dL_law_391 rfl (lv_at hl 0 rfl) ?_
      refine lv_iload_n hx hb dL_law_392 rfl (lv_at hl 3 rfl) ?_
      refine lv_iconst (v := 1) hx hb dL_law_393 (by decide) ?_
      refine lv_iadd hx hb dL_law_394 ?_
      refine va_sld hx hb hX hbl hbA hS g_1 dL_law_395 ?_
      rw [hs1]
      have hP : va_P G vwCl ([] ++ (mo_W cy g a b0 t vn vf vs vp vq vd vo un uf us up uq ud uo tm tx hc hh ss sv ++ md_W cy d mn mf mk mg mv mt mm)) H := hP
      have hD : va_D (fun q : Nat => s.heap.size ≤ q) ([] ++ (mo_W cy g a b0 t vn vf vs vp vq vd vo un uf us up uq ud uo tm tx hc hh ss sv ++ md_W cy d mn mf mk mg mv mt mm)) := hD
      refine kc_Vi (L := []) (w0 := mo_W cy g a b0 t vn vf vs vp vq vd vo un uf us up uq ud uo tm tx hc hh ss sv) (R' := md_W cy d mn mf mk mg mv mt mm) (As := [.int s1]) (rest := []) S hE (ctX6_open l G cy g a b0 t vn vf vs vp vq vd vo un uf us up uq ud uo tm tx hc hh ss sv s1 _ h) q_19_17 q_19_18 q_19_19 q_1_2 q_19_20 rfl 0 rfl rfl ydX6_open ⟨⟨rfl, rfl⟩, ⟨Nat.le_of_ble_eq_true rfl, Nat.le_of_ble_eq_true rfl⟩⟩ ⟨Nat.le_refl _, Nat.le_refl _⟩ hP hD hS rfl hl.1 rfl (Nat.le_of_ble_eq_true rfl) dL_law_396 (fun r u H locs h hP hD hS => ?_)
      refine lv_aload_n hx hb dL_law_399 rfl (lv_at hl 2 rfl) ?_
      refine lv_aload_n hx hb dL_law_400 rfl (lv_at hl 0 rfl) ?_
      refine lv_iload_n hx hb dL_law_401 rfl (lv_at hl 3 rfl) ?_
      refine lv_iconst (v := 1) hx hb dL_law_402 (by decide) ?_
      refine lv_iadd hx hb dL_law_403 ?_
      refine va_sld hx hb hX hbl hbA hS g_1 dL_law_404 ?_
      rw [hs1]
      have hP : va_P G vwCl (mo_W cy g a b0 t u.1 u.2.1 vs vp vq vd u.2.2.1 un uf us up uq ud uo tm tx u.2.2.2.1 u.2.2.2.2 ss sv ++ (md_W cy d mn mf mk mg mv mt mm ++ [])) H := by simpa only [List.append_nil, List.nil_append] using hP
      have hD : va_D (fun q : Nat => s.heap.size ≤ q) (mo_W cy g a b0 t u.1 u.2.1 vs vp vq vd u.2.2.1 un uf us up uq ud uo tm tx u.2.2.2.1 u.2.2.2.2 ss sv ++ (md_W cy d mn mf mk mg mv mt mm ++ [])) := by simpa only [List.append_nil, List.nil_append] using hD
      refine kc_Vi (L := mo_W cy g a b0 t u.1 u.2.1 vs vp vq vd u.2.2.1 un uf us up uq ud uo tm tx u.2.2.2.1 u.2.2.2.2 ss sv) (w0 := md_W cy d mn mf mk mg mv mt mm) (R' := []) (As := [.int s1]) (rest := [.int r]) S hE (ctX7_open l G cy d mn mf mk mg mv mt mm s1 _ h) q_19_21 q_19_22 q_19_23 q_1_5 q_20_0 rfl 0 rfl rfl ydX7_open ⟨⟨rfl, rfl⟩, ⟨Nat.le_of_ble_eq_true rfl, Nat.le_of_ble_eq_true rfl⟩⟩ ⟨Nat.le_refl _, Nat.le_refl _⟩ hP hD hS rfl hl.1 rfl (Nat.le_of_ble_eq_true rfl) dL_law_405 (fun q z H locs h hP hD hS => ?_)
      have hP : va_P G vwCl (mo_W cy g a b0 t u.1 u.2.1 vs vp vq vd u.2.2.1 un uf us up uq ud uo tm tx u.2.2.2.1 u.2.2.2.2 ss sv ++ md_W cy d z.1 mf z.2.1 z.2.2.1 mv mt z.2.2.2) H := by simpa only [List.append_nil] using hP
      have hD : va_D (fun q : Nat => s.heap.size ≤ q) (mo_W cy g a b0 t u.1 u.2.1 vs vp vq vd u.2.2.1 un uf us up uq ud uo tm tx u.2.2.2.1 u.2.2.2.2 ss sv ++ md_W cy d z.1 mf z.2.1 z.2.2.1 mv mt z.2.2.2) := by simpa only [List.append_nil] using hD
      refine lv_icmp_eq (tgt := 810) hx hb dL_law_408 (by decide) (fun _ => ?_) (fun q => absurd h.1 q)
      exact J _ _ _ _ _ _ _ _ _ _ _ _ _ _ _ _ _ _ _ _ _ _ _ _ _ _ _ h.2 H locs ls hP hD hS hl
    rcases Classical.em (x = 9) with e_9 | e_9
    · refine lv_tableIn (tgt := 413) hx hb dL_law_32 (by rw [e_9]; decide) (by rw [e_9]; decide) (by rw [e_9]; rfl) (by decide) ?_
      have h := hop.2.2.2.2.2.2.2.2.2.1 vn vf vs vp vq vd vo un uf us up uq ud uo tm tx hc hh ss sv mn mf mk mg mv mt mm s1 hI
      refine lv_aload_n hx hb dL_law_413 rfl (lv_at hl 1 rfl) ?_
      refine lv_aload_n hx hb dL_law_414 rfl (lv_at hl 0 rfl) ?_
      refine lv_iload_n hx hb dL_law_415 rfl (lv_at hl 3 rfl) ?_
      refine lv_iconst (v := 1) hx hb dL_law_416 (by decide) ?_
      refine lv_iadd hx hb dL_law_417 ?_
      refine va_sld hx hb hX hbl hbA hS g_1 dL_law_418 ?_
      rw [hs1]
      have hP : va_P G vwCl ([] ++ (mo_W cy g a b0 t vn vf vs vp vq vd vo un uf us up uq ud uo tm tx hc hh ss sv ++ md_W cy d mn mf mk mg mv mt mm)) H := hP
      have hD : va_D (fun q : Nat => s.heap.size ≤ q) ([] ++ (mo_W cy g a b0 t vn vf vs vp vq vd vo un uf us up uq ud uo tm tx hc hh ss sv ++ md_W cy d mn mf mk mg mv mt mm)) := hD
      refine kc_Vi (L := []) (w0 := mo_W cy g a b0 t vn vf vs vp vq vd vo un uf us up uq ud uo tm tx hc hh ss sv) (R' := md_W cy d mn mf mk mg mv mt mm) (As := [.int s1]) (rest := []) S hE (ctX6_pass l G cy g a b0 t vn vf vs vp vq vd vo un uf us up uq ud uo tm tx hc hh ss sv s1 _ h) q_20_17 q_20_18 q_20_19 q_1_2 q_20_20 rfl 0 rfl rfl ydX6_pass ⟨⟨rfl, rfl⟩, ⟨Nat.le_of_ble_eq_true rfl, Nat.le_of_ble_eq_true rfl⟩⟩ ⟨Nat.le_refl _, Nat.le_refl _⟩ hP hD hS rfl hl.1 rfl (Nat.le_of_ble_eq_true rfl) dL_law_419 (fun r u H locs h hP hD hS => ?_)
      refine lv_aload_n hx hb dL_law_422 rfl (lv_at hl 2 rfl) ?_
      refine lv_aload_n hx hb dL_law_423 rfl (lv_at hl 0 rfl) ?_
      refine lv_iload_n hx hb dL_law_424 rfl (lv_at hl 3 rfl) ?_
      refine lv_iconst (v := 1) hx hb dL_law_425 (by decide) ?_
      refine lv_iadd hx hb dL_law_426 ?_
      refine va_sld hx hb hX hbl hbA hS g_1 dL_law_427 ?_
      rw [hs1]
      have hP : va_P G vwCl (mo_W cy g a b0 t u.1 u.2.1 vs vp vq vd u.2.2.1 un uf us up uq ud uo tm tx u.2.2.2.1 u.2.2.2.2 ss sv ++ (md_W cy d mn mf mk mg mv mt mm ++ [])) H := by simpa only [List.append_nil, List.nil_append] using hP
      have hD : va_D (fun q : Nat => s.heap.size ≤ q) (mo_W cy g a b0 t u.1 u.2.1 vs vp vq vd u.2.2.1 un uf us up uq ud uo tm tx u.2.2.2.1 u.2.2.2.2 ss sv ++ (md_W cy d mn mf mk mg mv mt mm ++ [])) := by simpa only [List.append_nil, List.nil_append] using hD
      refine kc_Vi (L := mo_W cy g a b0 t u.1 u.2.1 vs vp vq vd u.2.2.1 un uf us up uq ud uo tm tx u.2.2.2.1 u.2.2.2.2 ss sv) (w0 := md_W cy d mn mf mk mg mv mt mm) (R' := []) (As := [.int s1]) (rest := [.int r]) S hE (ctX7_pass l G cy d mn mf mk mg mv mt mm s1 _ h) q_20_21 q_20_22 q_20_23 q_1_5 q_21_0 rfl 0 rfl rfl ydX7_pass ⟨⟨rfl, rfl⟩, ⟨Nat.le_of_ble_eq_true rfl, Nat.le_of_ble_eq_true rfl⟩⟩ ⟨Nat.le_refl _, Nat.le_refl _⟩ hP hD hS rfl hl.1 rfl (Nat.le_of_ble_eq_true rfl) dL_law_428 (fun q z H locs h hP hD hS => ?_)
      have hP : va_P G vwCl (mo_W cy g a b0 t u.1 u.2.1 vs vp vq vd u.2.2.1 un uf us up uq ud uo tm tx u.2.2.2.1 u.2.2.2.2 ss sv ++ md_W cy d z.1 z.2.1 z.2.2.1 z.2.2.2.1 mv mt z.2.2.2.2) H := by simpa only [List.append_nil] using hP
      have hD : va_D (fun q : Nat => s.heap.size ≤ q) (mo_W cy g a b0 t u.1 u.2.1 vs vp vq vd u.2.2.1 un uf us up uq ud uo tm tx u.2.2.2.1 u.2.2.2.2 ss sv ++ md_W cy d z.1 z.2.1 z.2.2.1 z.2.2.2.1 mv mt z.2.2.2.2) := by simpa only [List.append_nil] using hD
      refine lv_icmp_eq (tgt := 810) hx hb dL_law_431 (by decide) (fun _ => ?_) (fun q => absurd h.1 q)
      exact J _ _ _ _ _ _ _ _ _ _ _ _ _ _ _ _ _ _ _ _ _ _ _ _ _ _ _ h.2 H locs ls hP hD hS hl
    rcases Classical.em (x = 10) with e_10 | e_10
    · refine lv_tableIn (tgt := 436) hx hb dL_law_32 (by rw [e_10]; decide) (by rw [e_10]; decide) (by rw [e_10]; rfl) (by decide) ?_
      have h := hop.2.2.2.2.2.2.2.2.2.2.1 vn vf vs vp vq vd vo un uf us up uq ud uo tm tx hc hh ss sv mn mf mk mg mv mt mm s1 hI
      refine lv_aload_n hx hb dL_law_436 rfl (lv_at hl 1 rfl) ?_
      refine lv_aload_n hx hb dL_law_437 rfl (lv_at hl 0 rfl) ?_
      refine lv_iload_n hx hb dL_law_438 rfl (lv_at hl 3 rfl) ?_
      refine lv_iconst (v := 1) hx hb dL_law_439 (by decide) ?_
      refine lv_iadd hx hb dL_law_440 ?_
      refine va_sld hx hb hX hbl hbA hS g_1 dL_law_441 ?_
      rw [hs1]
      have hP : va_P G vwCl ([] ++ (mo_W cy g a b0 t vn vf vs vp vq vd vo un uf us up uq ud uo tm tx hc hh ss sv ++ md_W cy d mn mf mk mg mv mt mm)) H := hP
      have hD : va_D (fun q : Nat => s.heap.size ≤ q) ([] ++ (mo_W cy g a b0 t vn vf vs vp vq vd vo un uf us up uq ud uo tm tx hc hh ss sv ++ md_W cy d mn mf mk mg mv mt mm)) := hD
      refine kc_Vi (L := []) (w0 := mo_W cy g a b0 t vn vf vs vp vq vd vo un uf us up uq ud uo tm tx hc hh ss sv) (R' := md_W cy d mn mf mk mg mv mt mm) (As := [.int s1]) (rest := []) S hE (ctX6_append l G cy g a b0 t vn vf vs vp vq vd vo un uf us up uq ud uo tm tx hc hh ss sv s1 _ h) q_23_13 q_23_14 q_23_15 q_1_2 q_23_16 rfl 0 rfl rfl ydX6_append ⟨⟨rfl, rfl⟩, ⟨Nat.le_of_ble_eq_true rfl, Nat.le_of_ble_eq_true rfl⟩⟩ ⟨Nat.le_refl _, Nat.le_refl _⟩ hP hD hS rfl hl.1 rfl (Nat.le_of_ble_eq_true rfl) dL_law_442 (fun r u H locs h hP hD hS => ?_)
      refine lv_aload_n hx hb dL_law_445 rfl (lv_at hl 2 rfl) ?_
      refine lv_aload_n hx hb dL_law_446 rfl (lv_at hl 0 rfl) ?_
      refine lv_iload_n hx hb dL_law_447 rfl (lv_at hl 3 rfl) ?_
      refine lv_iconst (v := 1) hx hb dL_law_448 (by decide) ?_
      refine lv_iadd hx hb dL_law_449 ?_
      refine va_sld hx hb hX hbl hbA hS g_1 dL_law_450 ?_
      rw [hs1]
      have hP : va_P G vwCl (mo_W cy g a b0 t vn vf vs vp vq vd vo un uf us up uq ud uo u.1 u.2 hc hh ss sv ++ (md_W cy d mn mf mk mg mv mt mm ++ [])) H := by simpa only [List.append_nil, List.nil_append] using hP
      have hD : va_D (fun q : Nat => s.heap.size ≤ q) (mo_W cy g a b0 t vn vf vs vp vq vd vo un uf us up uq ud uo u.1 u.2 hc hh ss sv ++ (md_W cy d mn mf mk mg mv mt mm ++ [])) := by simpa only [List.append_nil, List.nil_append] using hD
      refine kc_Vi (L := mo_W cy g a b0 t vn vf vs vp vq vd vo un uf us up uq ud uo u.1 u.2 hc hh ss sv) (w0 := md_W cy d mn mf mk mg mv mt mm) (R' := []) (As := [.int s1]) (rest := [.int r]) S hE (ctX7_append l G cy d mn mf mk mg mv mt mm s1 _ h) q_23_19 q_23_20 q_23_21 q_1_5 q_23_22 rfl 0 rfl rfl ydX7_append ⟨⟨rfl, rfl⟩, ⟨Nat.le_of_ble_eq_true rfl, Nat.le_of_ble_eq_true rfl⟩⟩ ⟨Nat.le_refl _, Nat.le_refl _⟩ hP hD hS rfl hl.1 rfl (Nat.le_of_ble_eq_true rfl) dL_law_451 (fun q z H locs h hP hD hS => ?_)
      have hP : va_P G vwCl (mo_W cy g a b0 t vn vf vs vp vq vd vo un uf us up uq ud uo u.1 u.2 hc hh ss sv ++ md_W cy d mn mf mk mg mv z.1 z.2) H := by simpa only [List.append_nil] using hP
      have hD : va_D (fun q : Nat => s.heap.size ≤ q) (mo_W cy g a b0 t vn vf vs vp vq vd vo un uf us up uq ud uo u.1 u.2 hc hh ss sv ++ md_W cy d mn mf mk mg mv z.1 z.2) := by simpa only [List.append_nil] using hD
      refine lv_icmp_eq (tgt := 810) hx hb dL_law_454 (by decide) (fun _ => ?_) (fun q => absurd h.1 q)
      exact J _ _ _ _ _ _ _ _ _ _ _ _ _ _ _ _ _ _ _ _ _ _ _ _ _ _ _ h.2 H locs ls hP hD hS hl
    rcases Classical.em (x = 11) with e_11 | e_11
    · refine lv_tableIn (tgt := 459) hx hb dL_law_32 (by rw [e_11]; decide) (by rw [e_11]; decide) (by rw [e_11]; rfl) (by decide) ?_
      have h := hop.2.2.2.2.2.2.2.2.2.2.2.1 vn vf vs vp vq vd vo un uf us up uq ud uo tm tx hc hh ss sv mn mf mk mg mv mt mm  hI
      refine lv_aload_n hx hb dL_law_459 rfl (lv_at hl 1 rfl) ?_
      have hP : va_P G vwCl ([] ++ (mo_W cy g a b0 t vn vf vs vp vq vd vo un uf us up uq ud uo tm tx hc hh ss sv ++ md_W cy d mn mf mk mg mv mt mm)) H := hP
      have hD : va_D (fun q : Nat => s.heap.size ≤ q) ([] ++ (mo_W cy g a b0 t vn vf vs vp vq vd vo un uf us up uq ud uo tm tx hc hh ss sv ++ md_W cy d mn mf mk mg mv mt mm)) := hD
      refine kc_Vi (L := []) (w0 := mo_W cy g a b0 t vn vf vs vp vq vd vo un uf us up uq ud uo tm tx hc hh ss sv) (R' := md_W cy d mn mf mk mg mv mt mm) (As := []) (rest := []) S hE (ctX6_clearText l G cy g a b0 t vn vf vs vp vq vd vo un uf us up uq ud uo tm tx hc hh ss sv  _ h) q_24_0 q_24_1 q_24_2 q_1_2 q_24_3 rfl 0 rfl rfl ydX6_clearText ⟨⟨rfl, rfl⟩, ⟨Nat.le_of_ble_eq_true rfl, Nat.le_of_ble_eq_true rfl⟩⟩ ⟨Nat.le_refl _, Nat.le_refl _⟩ hP hD hS rfl hl.1 rfl (Nat.le_of_ble_eq_true rfl) dL_law_460 (fun r u H locs h hP hD hS => ?_)
      refine lv_aload_n hx hb dL_law_463 rfl (lv_at hl 2 rfl) ?_
      have hP : va_P G vwCl (mo_W cy g a b0 t vn vf vs vp vq vd vo un uf us up uq ud uo u tx hc hh ss sv ++ (md_W cy d mn mf mk mg mv mt mm ++ [])) H := by simpa only [List.append_nil, List.nil_append] using hP
      have hD : va_D (fun q : Nat => s.heap.size ≤ q) (mo_W cy g a b0 t vn vf vs vp vq vd vo un uf us up uq ud uo u tx hc hh ss sv ++ (md_W cy d mn mf mk mg mv mt mm ++ [])) := by simpa only [List.append_nil, List.nil_append] using hD
      refine kc_Vi (L := mo_W cy g a b0 t vn vf vs vp vq vd vo un uf us up uq ud uo u tx hc hh ss sv) (w0 := md_W cy d mn mf mk mg mv mt mm) (R' := []) (As := []) (rest := [.int r]) S hE (ctX7_clearText l G cy d mn mf mk mg mv mt mm  _ h) q_24_4 q_24_5 q_24_6 q_1_5 q_24_7 rfl 0 rfl rfl ydX7_clearText ⟨⟨rfl, rfl⟩, ⟨Nat.le_of_ble_eq_true rfl, Nat.le_of_ble_eq_true rfl⟩⟩ ⟨Nat.le_refl _, Nat.le_refl _⟩ hP hD hS rfl hl.1 rfl (Nat.le_of_ble_eq_true rfl) dL_law_464 (fun q z H locs h hP hD hS => ?_)
      have hP : va_P G vwCl (mo_W cy g a b0 t vn vf vs vp vq vd vo un uf us up uq ud uo u tx hc hh ss sv ++ md_W cy d mn mf mk mg mv mt z) H := by simpa only [List.append_nil] using hP
      have hD : va_D (fun q : Nat => s.heap.size ≤ q) (mo_W cy g a b0 t vn vf vs vp vq vd vo un uf us up uq ud uo u tx hc hh ss sv ++ md_W cy d mn mf mk mg mv mt z) := by simpa only [List.append_nil] using hD
      refine lv_icmp_eq (tgt := 810) hx hb dL_law_467 (by decide) (fun _ => ?_) (fun q => absurd h.1 q)
      exact J _ _ _ _ _ _ _ _ _ _ _ _ _ _ _ _ _ _ _ _ _ _ _ _ _ _ _ h.2 H locs ls hP hD hS hl
    rcases Classical.em (x = 12) with e_12 | e_12
    · refine lv_tableIn (tgt := 472) hx hb dL_law_32 (by rw [e_12]; decide) (by rw [e_12]; decide) (by rw [e_12]; rfl) (by decide) ?_
      have h := hop.2.2.2.2.2.2.2.2.2.2.2.2.1 vn vf vs vp vq vd vo un uf us up uq ud uo tm tx hc hh ss sv mn mf mk mg mv mt mm  hI
      refine lv_aload_n hx hb dL_law_472 rfl (lv_at hl 1 rfl) ?_
      have hP : va_P G vwCl ([] ++ (mo_W cy g a b0 t vn vf vs vp vq vd vo un uf us up uq ud uo tm tx hc hh ss sv ++ md_W cy d mn mf mk mg mv mt mm)) H := hP
      have hD : va_D (fun q : Nat => s.heap.size ≤ q) ([] ++ (mo_W cy g a b0 t vn vf vs vp vq vd vo un uf us up uq ud uo tm tx hc hh ss sv ++ md_W cy d mn mf mk mg mv mt mm)) := hD
      refine kc_Vi (L := []) (w0 := mo_W cy g a b0 t vn vf vs vp vq vd vo un uf us up uq ud uo tm tx hc hh ss sv) (R' := md_W cy d mn mf mk mg mv mt mm) (As := []) (rest := []) S hE (ctX6_faultPosition l G cy g a b0 t vn vf vs vp vq vd vo un uf us up uq ud uo tm tx hc hh ss sv  _ h) q_24_8 q_24_9 q_24_10 q_1_2 q_24_11 rfl 0 rfl rfl ydX6_faultPosition ⟨⟨rfl, rfl⟩, ⟨Nat.le_of_ble_eq_true rfl, Nat.le_of_ble_eq_true rfl⟩⟩ ⟨Nat.le_refl _, Nat.le_refl _⟩ hP hD hS rfl hl.1 rfl (Nat.le_of_ble_eq_true rfl) dL_law_473 (fun r u H locs h hP hD hS => ?_)
      refine lv_aload_n hx hb dL_law_476 rfl (lv_at hl 2 rfl) ?_
      have hP : va_P G vwCl (mo_W cy g a b0 t vn vf vs vp vq vd vo un uf us up uq ud uo tm tx hc hh ss sv ++ (md_W cy d mn mf mk mg mv mt mm ++ [])) H := by simpa only [List.append_nil, List.nil_append] using hP
      have hD : va_D (fun q : Nat => s.heap.size ≤ q) (mo_W cy g a b0 t vn vf vs vp vq vd vo un uf us up uq ud uo tm tx hc hh ss sv ++ (md_W cy d mn mf mk mg mv mt mm ++ [])) := by simpa only [List.append_nil, List.nil_append] using hD
      refine kc_Vi (L := mo_W cy g a b0 t vn vf vs vp vq vd vo un uf us up uq ud uo tm tx hc hh ss sv) (w0 := md_W cy d mn mf mk mg mv mt mm) (R' := []) (As := []) (rest := [.int r]) S hE (ctX7_faultPosition l G cy d mn mf mk mg mv mt mm  _ h) q_25_14 q_25_15 q_25_16 q_1_5 q_25_17 rfl 0 rfl rfl ydX7_faultPosition ⟨⟨rfl, rfl⟩, ⟨Nat.le_of_ble_eq_true rfl, Nat.le_of_ble_eq_true rfl⟩⟩ ⟨Nat.le_refl _, Nat.le_refl _⟩ hP hD hS rfl hl.1 rfl (Nat.le_of_ble_eq_true rfl) dL_law_477 (fun q z H locs h hP hD hS => ?_)
      have hP : va_P G vwCl (mo_W cy g a b0 t vn vf vs vp vq vd vo un uf us up uq ud uo tm tx hc hh ss sv ++ md_W cy d mn mf mk mg mv mt z) H := by simpa only [List.append_nil] using hP
      have hD : va_D (fun q : Nat => s.heap.size ≤ q) (mo_W cy g a b0 t vn vf vs vp vq vd vo un uf us up uq ud uo tm tx hc hh ss sv ++ md_W cy d mn mf mk mg mv mt z) := by simpa only [List.append_nil] using hD
      refine lv_icmp_eq (tgt := 810) hx hb dL_law_480 (by decide) (fun _ => ?_) (fun q => absurd h.1 q)
      exact J _ _ _ _ _ _ _ _ _ _ _ _ _ _ _ _ _ _ _ _ _ _ _ _ _ _ _ h.2 H locs ls hP hD hS hl
    rcases Classical.em (x = 13) with e_13 | e_13
    · refine lv_tableIn (tgt := 485) hx hb dL_law_32 (by rw [e_13]; decide) (by rw [e_13]; decide) (by rw [e_13]; rfl) (by decide) ?_
      have h := hop.2.2.2.2.2.2.2.2.2.2.2.2.2.1 vn vf vs vp vq vd vo un uf us up uq ud uo tm tx hc hh ss sv mn mf mk mg mv mt mm  hI
      refine lv_aload_n hx hb dL_law_485 rfl (lv_at hl 1 rfl) ?_
      have hP : va_P G vwCl ([] ++ (mo_W cy g a b0 t vn vf vs vp vq vd vo un uf us up uq ud uo tm tx hc hh ss sv ++ md_W cy d mn mf mk mg mv mt mm)) H := hP
      have hD : va_D (fun q : Nat => s.heap.size ≤ q) ([] ++ (mo_W cy g a b0 t vn vf vs vp vq vd vo un uf us up uq ud uo tm tx hc hh ss sv ++ md_W cy d mn mf mk mg mv mt mm)) := hD
      refine kc_Vi (L := []) (w0 := mo_W cy g a b0 t vn vf vs vp vq vd vo un uf us up uq ud uo tm tx hc hh ss sv) (R' := md_W cy d mn mf mk mg mv mt mm) (As := []) (rest := []) S hE (ctX6_run l G cy g a b0 t vn vf vs vp vq vd vo un uf us up uq ud uo tm tx hc hh ss sv  _ h) q_26_9 q_26_10 q_26_11 q_1_2 q_26_12 rfl 0 rfl rfl ydX6_run ⟨⟨rfl, rfl⟩, ⟨Nat.le_of_ble_eq_true rfl, Nat.le_of_ble_eq_true rfl⟩⟩ ⟨Nat.le_refl _, Nat.le_refl _⟩ hP hD hS rfl hl.1 rfl (Nat.le_of_ble_eq_true rfl) dL_law_486 (fun r u H locs h hP hD hS => ?_)
      refine lv_aload_n hx hb dL_law_489 rfl (lv_at hl 2 rfl) ?_
      have hP : va_P G vwCl (mo_W cy g a b0 t u.1 u.2.1 vs vp vq vd u.2.2.1 un uf us up uq ud uo tm tx u.2.2.2.1 u.2.2.2.2 ss sv ++ (md_W cy d mn mf mk mg mv mt mm ++ [])) H := by simpa only [List.append_nil, List.nil_append] using hP
      have hD : va_D (fun q : Nat => s.heap.size ≤ q) (mo_W cy g a b0 t u.1 u.2.1 vs vp vq vd u.2.2.1 un uf us up uq ud uo tm tx u.2.2.2.1 u.2.2.2.2 ss sv ++ (md_W cy d mn mf mk mg mv mt mm ++ [])) := by simpa only [List.append_nil, List.nil_append] using hD
      refine kc_Vi (L := mo_W cy g a b0 t u.1 u.2.1 vs vp vq vd u.2.2.1 un uf us up uq ud uo tm tx u.2.2.2.1 u.2.2.2.2 ss sv) (w0 := md_W cy d mn mf mk mg mv mt mm) (R' := []) (As := []) (rest := [.int r]) S hE (ctX7_run l G cy d mn mf mk mg mv mt mm  _ h) q_26_19 q_26_20 q_26_21 q_1_5 q_26_22 rfl 0 rfl rfl ydX7_run ⟨⟨rfl, rfl⟩, ⟨Nat.le_of_ble_eq_true rfl, Nat.le_of_ble_eq_true rfl⟩⟩ ⟨Nat.le_refl _, Nat.le_refl _⟩ hP hD hS rfl hl.1 rfl (Nat.le_of_ble_eq_true rfl) dL_law_490 (fun q z H locs h hP hD hS => ?_)
      have hP : va_P G vwCl (mo_W cy g a b0 t u.1 u.2.1 vs vp vq vd u.2.2.1 un uf us up uq ud uo tm tx u.2.2.2.1 u.2.2.2.2 ss sv ++ md_W cy d z.1 z.2.1 z.2.2.1 z.2.2.2.1 mv mt z.2.2.2.2) H := by simpa only [List.append_nil] using hP
      have hD : va_D (fun q : Nat => s.heap.size ≤ q) (mo_W cy g a b0 t u.1 u.2.1 vs vp vq vd u.2.2.1 un uf us up uq ud uo tm tx u.2.2.2.1 u.2.2.2.2 ss sv ++ md_W cy d z.1 z.2.1 z.2.2.1 z.2.2.2.1 mv mt z.2.2.2.2) := by simpa only [List.append_nil] using hD
      refine lv_icmp_eq (tgt := 810) hx hb dL_law_493 (by decide) (fun _ => ?_) (fun q => absurd h.1 q)
      exact J _ _ _ _ _ _ _ _ _ _ _ _ _ _ _ _ _ _ _ _ _ _ _ _ _ _ _ h.2 H locs ls hP hD hS hl
    rcases Classical.em (x = 14) with e_14 | e_14
    · refine lv_tableIn (tgt := 498) hx hb dL_law_32 (by rw [e_14]; decide) (by rw [e_14]; decide) (by rw [e_14]; rfl) (by decide) ?_
      have h := hop.2.2.2.2.2.2.2.2.2.2.2.2.2.2.1 vn vf vs vp vq vd vo un uf us up uq ud uo tm tx hc hh ss sv mn mf mk mg mv mt mm  hI
      refine lv_aload_n hx hb dL_law_498 rfl (lv_at hl 1 rfl) ?_
      have hP : va_P G vwCl ([] ++ (mo_W cy g a b0 t vn vf vs vp vq vd vo un uf us up uq ud uo tm tx hc hh ss sv ++ md_W cy d mn mf mk mg mv mt mm)) H := hP
      have hD : va_D (fun q : Nat => s.heap.size ≤ q) ([] ++ (mo_W cy g a b0 t vn vf vs vp vq vd vo un uf us up uq ud uo tm tx hc hh ss sv ++ md_W cy d mn mf mk mg mv mt mm)) := hD
      refine kc_Vi (L := []) (w0 := mo_W cy g a b0 t vn vf vs vp vq vd vo un uf us up uq ud uo tm tx hc hh ss sv) (R' := md_W cy d mn mf mk mg mv mt mm) (As := []) (rest := []) S hE (ctX6_undo l G cy g a b0 t vn vf vs vp vq vd vo un uf us up uq ud uo tm tx hc hh ss sv  _ h) q_27_4 q_27_5 q_27_6 q_1_2 q_27_7 rfl 0 rfl rfl ydX6_undo ⟨⟨rfl, rfl⟩, ⟨Nat.le_of_ble_eq_true rfl, Nat.le_of_ble_eq_true rfl⟩⟩ ⟨Nat.le_refl _, Nat.le_refl _⟩ hP hD hS rfl hl.1 rfl (Nat.le_of_ble_eq_true rfl) dL_law_499 (fun r u H locs h hP hD hS => ?_)
      refine lv_aload_n hx hb dL_law_502 rfl (lv_at hl 2 rfl) ?_
      have hP : va_P G vwCl (mo_W cy g a b0 t u.1 u.2.1 u.2.2.1 u.2.2.2.1 u.2.2.2.2.1 u.2.2.2.2.2.1 u.2.2.2.2.2.2.1 un uf us up uq ud uo tm tx u.2.2.2.2.2.2.2 hh ss sv ++ (md_W cy d mn mf mk mg mv mt mm ++ [])) H := by simpa only [List.append_nil, List.nil_append] using hP
      have hD : va_D (fun q : Nat => s.heap.size ≤ q) (mo_W cy g a b0 t u.1 u.2.1 u.2.2.1 u.2.2.2.1 u.2.2.2.2.1 u.2.2.2.2.2.1 u.2.2.2.2.2.2.1 un uf us up uq ud uo tm tx u.2.2.2.2.2.2.2 hh ss sv ++ (md_W cy d mn mf mk mg mv mt mm ++ [])) := by simpa only [List.append_nil, List.nil_append] using hD
      refine kc_Vi (L := mo_W cy g a b0 t u.1 u.2.1 u.2.2.1 u.2.2.2.1 u.2.2.2.2.1 u.2.2.2.2.2.1 u.2.2.2.2.2.2.1 un uf us up uq ud uo tm tx u.2.2.2.2.2.2.2 hh ss sv) (w0 := md_W cy d mn mf mk mg mv mt mm) (R' := []) (As := []) (rest := [.int r]) S hE (ctX7_undo l G cy d mn mf mk mg mv mt mm  _ h) q_27_13 q_27_14 q_27_15 q_1_5 q_27_16 rfl 0 rfl rfl ydX7_undo ⟨⟨rfl, rfl⟩, ⟨Nat.le_of_ble_eq_true rfl, Nat.le_of_ble_eq_true rfl⟩⟩ ⟨Nat.le_refl _, Nat.le_refl _⟩ hP hD hS rfl hl.1 rfl (Nat.le_of_ble_eq_true rfl) dL_law_503 (fun q z H locs h hP hD hS => ?_)
      have hP : va_P G vwCl (mo_W cy g a b0 t u.1 u.2.1 u.2.2.1 u.2.2.2.1 u.2.2.2.2.1 u.2.2.2.2.2.1 u.2.2.2.2.2.2.1 un uf us up uq ud uo tm tx u.2.2.2.2.2.2.2 hh ss sv ++ md_W cy d z.1 z.2.1 mk mg mv mt z.2.2) H := by simpa only [List.append_nil] using hP
      have hD : va_D (fun q : Nat => s.heap.size ≤ q) (mo_W cy g a b0 t u.1 u.2.1 u.2.2.1 u.2.2.2.1 u.2.2.2.2.1 u.2.2.2.2.2.1 u.2.2.2.2.2.2.1 un uf us up uq ud uo tm tx u.2.2.2.2.2.2.2 hh ss sv ++ md_W cy d z.1 z.2.1 mk mg mv mt z.2.2) := by simpa only [List.append_nil] using hD
      refine lv_icmp_eq (tgt := 810) hx hb dL_law_506 (by decide) (fun _ => ?_) (fun q => absurd h.1 q)
      exact J _ _ _ _ _ _ _ _ _ _ _ _ _ _ _ _ _ _ _ _ _ _ _ _ _ _ _ h.2 H locs ls hP hD hS hl
    rcases Classical.em (x = 15) with e_15 | e_15
    · refine lv_tableIn (tgt := 511) hx hb dL_law_32 (by rw [e_15]; decide) (by rw [e_15]; decide) (by rw [e_15]; rfl) (by decide) ?_
      have h := hop.2.2.2.2.2.2.2.2.2.2.2.2.2.2.2.1 vn vf vs vp vq vd vo un uf us up uq ud uo tm tx hc hh ss sv mn mf mk mg mv mt mm s1 hI
      refine lv_aload_n hx hb dL_law_511 rfl (lv_at hl 1 rfl) ?_
      refine lv_aload_n hx hb dL_law_512 rfl (lv_at hl 0 rfl) ?_
      refine lv_iload_n hx hb dL_law_513 rfl (lv_at hl 3 rfl) ?_
      refine lv_iconst (v := 1) hx hb dL_law_514 (by decide) ?_
      refine lv_iadd hx hb dL_law_515 ?_
      refine va_sld hx hb hX hbl hbA hS g_1 dL_law_516 ?_
      rw [hs1]
      have hP : va_P G vwCl ([] ++ (mo_W cy g a b0 t vn vf vs vp vq vd vo un uf us up uq ud uo tm tx hc hh ss sv ++ md_W cy d mn mf mk mg mv mt mm)) H := hP
      have hD : va_D (fun q : Nat => s.heap.size ≤ q) ([] ++ (mo_W cy g a b0 t vn vf vs vp vq vd vo un uf us up uq ud uo tm tx hc hh ss sv ++ md_W cy d mn mf mk mg mv mt mm)) := hD
      refine kc_Vi (L := []) (w0 := mo_W cy g a b0 t vn vf vs vp vq vd vo un uf us up uq ud uo tm tx hc hh ss sv) (R' := md_W cy d mn mf mk mg mv mt mm) (As := [.int s1]) (rest := []) S hE (ctX6_save l G cy g a b0 t vn vf vs vp vq vd vo un uf us up uq ud uo tm tx hc hh ss sv s1 _ h) q_27_21 q_27_22 q_27_23 q_1_2 q_28_0 rfl 0 rfl rfl ydX6_save ⟨⟨rfl, rfl⟩, ⟨Nat.le_of_ble_eq_true rfl, Nat.le_of_ble_eq_true rfl⟩⟩ ⟨Nat.le_refl _, Nat.le_refl _⟩ hP hD hS rfl hl.1 rfl (Nat.le_of_ble_eq_true rfl) dL_law_517 (fun r u H locs h hP hD hS => ?_)
      refine lv_aload_n hx hb dL_law_520 rfl (lv_at hl 2 rfl) ?_
      refine lv_aload_n hx hb dL_law_521 rfl (lv_at hl 0 rfl) ?_
      refine lv_iload_n hx hb dL_law_522 rfl (lv_at hl 3 rfl) ?_
      refine lv_iconst (v := 1) hx hb dL_law_523 (by decide) ?_
      refine lv_iadd hx hb dL_law_524 ?_
      refine va_sld hx hb hX hbl hbA hS g_1 dL_law_525 ?_
      rw [hs1]
      have hP : va_P G vwCl (mo_W cy g a b0 t vn vf vs vp vq vd vo un uf us up uq ud uo tm tx hc hh u.1 u.2 ++ (md_W cy d mn mf mk mg mv mt mm ++ [])) H := by simpa only [List.append_nil, List.nil_append] using hP
      have hD : va_D (fun q : Nat => s.heap.size ≤ q) (mo_W cy g a b0 t vn vf vs vp vq vd vo un uf us up uq ud uo tm tx hc hh u.1 u.2 ++ (md_W cy d mn mf mk mg mv mt mm ++ [])) := by simpa only [List.append_nil, List.nil_append] using hD
      refine kc_Vi (L := mo_W cy g a b0 t vn vf vs vp vq vd vo un uf us up uq ud uo tm tx hc hh u.1 u.2) (w0 := md_W cy d mn mf mk mg mv mt mm) (R' := []) (As := [.int s1]) (rest := [.int r]) S hE (ctX7_save l G cy d mn mf mk mg mv mt mm s1 _ h) q_28_3 q_28_4 q_28_5 q_1_5 q_28_6 rfl 0 rfl rfl ydX7_save ⟨⟨rfl, rfl⟩, ⟨Nat.le_of_ble_eq_true rfl, Nat.le_of_ble_eq_true rfl⟩⟩ ⟨Nat.le_refl _, Nat.le_refl _⟩ hP hD hS rfl hl.1 rfl (Nat.le_of_ble_eq_true rfl) dL_law_526 (fun q z H locs h hP hD hS => ?_)
      have hP : va_P G vwCl (mo_W cy g a b0 t vn vf vs vp vq vd vo un uf us up uq ud uo tm tx hc hh u.1 u.2 ++ md_W cy d mn mf z.1 z.2.1 z.2.2 mt mm) H := by simpa only [List.append_nil] using hP
      have hD : va_D (fun q : Nat => s.heap.size ≤ q) (mo_W cy g a b0 t vn vf vs vp vq vd vo un uf us up uq ud uo tm tx hc hh u.1 u.2 ++ md_W cy d mn mf z.1 z.2.1 z.2.2 mt mm) := by simpa only [List.append_nil] using hD
      refine lv_icmp_eq (tgt := 810) hx hb dL_law_529 (by decide) (fun _ => ?_) (fun q => absurd h.1 q)
      exact J _ _ _ _ _ _ _ _ _ _ _ _ _ _ _ _ _ _ _ _ _ _ _ _ _ _ _ h.2 H locs ls hP hD hS hl
    rcases Classical.em (x = 16) with e_16 | e_16
    · refine lv_tableIn (tgt := 534) hx hb dL_law_32 (by rw [e_16]; decide) (by rw [e_16]; decide) (by rw [e_16]; rfl) (by decide) ?_
      have h := hop.2.2.2.2.2.2.2.2.2.2.2.2.2.2.2.2.1 vn vf vs vp vq vd vo un uf us up uq ud uo tm tx hc hh ss sv mn mf mk mg mv mt mm s1 hI
      refine lv_aload_n hx hb dL_law_534 rfl (lv_at hl 1 rfl) ?_
      refine lv_aload_n hx hb dL_law_535 rfl (lv_at hl 0 rfl) ?_
      refine lv_iload_n hx hb dL_law_536 rfl (lv_at hl 3 rfl) ?_
      refine lv_iconst (v := 1) hx hb dL_law_537 (by decide) ?_
      refine lv_iadd hx hb dL_law_538 ?_
      refine va_sld hx hb hX hbl hbA hS g_1 dL_law_539 ?_
      rw [hs1]
      have hP : va_P G vwCl ([] ++ (mo_W cy g a b0 t vn vf vs vp vq vd vo un uf us up uq ud uo tm tx hc hh ss sv ++ md_W cy d mn mf mk mg mv mt mm)) H := hP
      have hD : va_D (fun q : Nat => s.heap.size ≤ q) ([] ++ (mo_W cy g a b0 t vn vf vs vp vq vd vo un uf us up uq ud uo tm tx hc hh ss sv ++ md_W cy d mn mf mk mg mv mt mm)) := hD
      refine kc_Vi (L := []) (w0 := mo_W cy g a b0 t vn vf vs vp vq vd vo un uf us up uq ud uo tm tx hc hh ss sv) (R' := md_W cy d mn mf mk mg mv mt mm) (As := [.int s1]) (rest := []) S hE (ctX6_restore l G cy g a b0 t vn vf vs vp vq vd vo un uf us up uq ud uo tm tx hc hh ss sv s1 _ h) q_28_7 q_28_8 q_28_9 q_1_2 q_28_10 rfl 0 rfl rfl ydX6_restore ⟨⟨rfl, rfl⟩, ⟨Nat.le_of_ble_eq_true rfl, Nat.le_of_ble_eq_true rfl⟩⟩ ⟨Nat.le_refl _, Nat.le_refl _⟩ hP hD hS rfl hl.1 rfl (Nat.le_of_ble_eq_true rfl) dL_law_540 (fun r u H locs h hP hD hS => ?_)
      refine lv_aload_n hx hb dL_law_543 rfl (lv_at hl 2 rfl) ?_
      refine lv_aload_n hx hb dL_law_544 rfl (lv_at hl 0 rfl) ?_
      refine lv_iload_n hx hb dL_law_545 rfl (lv_at hl 3 rfl) ?_
      refine lv_iconst (v := 1) hx hb dL_law_546 (by decide) ?_
      refine lv_iadd hx hb dL_law_547 ?_
      refine va_sld hx hb hX hbl hbA hS g_1 dL_law_548 ?_
      rw [hs1]
      have hP : va_P G vwCl (mo_W cy g a b0 t u.1 u.2.1 u.2.2.1 u.2.2.2.1 u.2.2.2.2.1 u.2.2.2.2.2.1 u.2.2.2.2.2.2.1 un uf us up uq ud uo tm tx u.2.2.2.2.2.2.2.1 u.2.2.2.2.2.2.2.2 ss sv ++ (md_W cy d mn mf mk mg mv mt mm ++ [])) H := by simpa only [List.append_nil, List.nil_append] using hP
      have hD : va_D (fun q : Nat => s.heap.size ≤ q) (mo_W cy g a b0 t u.1 u.2.1 u.2.2.1 u.2.2.2.1 u.2.2.2.2.1 u.2.2.2.2.2.1 u.2.2.2.2.2.2.1 un uf us up uq ud uo tm tx u.2.2.2.2.2.2.2.1 u.2.2.2.2.2.2.2.2 ss sv ++ (md_W cy d mn mf mk mg mv mt mm ++ [])) := by simpa only [List.append_nil, List.nil_append] using hD
      refine kc_Vi (L := mo_W cy g a b0 t u.1 u.2.1 u.2.2.1 u.2.2.2.1 u.2.2.2.2.1 u.2.2.2.2.2.1 u.2.2.2.2.2.2.1 un uf us up uq ud uo tm tx u.2.2.2.2.2.2.2.1 u.2.2.2.2.2.2.2.2 ss sv) (w0 := md_W cy d mn mf mk mg mv mt mm) (R' := []) (As := [.int s1]) (rest := [.int r]) S hE (ctX7_restore l G cy d mn mf mk mg mv mt mm s1 _ h) q_28_11 q_28_12 q_28_13 q_1_5 q_28_14 rfl 0 rfl rfl ydX7_restore ⟨⟨rfl, rfl⟩, ⟨Nat.le_of_ble_eq_true rfl, Nat.le_of_ble_eq_true rfl⟩⟩ ⟨Nat.le_refl _, Nat.le_refl _⟩ hP hD hS rfl hl.1 rfl (Nat.le_of_ble_eq_true rfl) dL_law_549 (fun q z H locs h hP hD hS => ?_)
      have hP : va_P G vwCl (mo_W cy g a b0 t u.1 u.2.1 u.2.2.1 u.2.2.2.1 u.2.2.2.2.1 u.2.2.2.2.2.1 u.2.2.2.2.2.2.1 un uf us up uq ud uo tm tx u.2.2.2.2.2.2.2.1 u.2.2.2.2.2.2.2.2 ss sv ++ md_W cy d z.1 z.2.1 z.2.2.1 z.2.2.2.1 mv mt z.2.2.2.2) H := by simpa only [List.append_nil] using hP
      have hD : va_D (fun q : Nat => s.heap.size ≤ q) (mo_W cy g a b0 t u.1 u.2.1 u.2.2.1 u.2.2.2.1 u.2.2.2.2.1 u.2.2.2.2.2.1 u.2.2.2.2.2.2.1 un uf us up uq ud uo tm tx u.2.2.2.2.2.2.2.1 u.2.2.2.2.2.2.2.2 ss sv ++ md_W cy d z.1 z.2.1 z.2.2.1 z.2.2.2.1 mv mt z.2.2.2.2) := by simpa only [List.append_nil] using hD
      refine lv_icmp_eq (tgt := 810) hx hb dL_law_552 (by decide) (fun _ => ?_) (fun q => absurd h.1 q)
      exact J _ _ _ _ _ _ _ _ _ _ _ _ _ _ _ _ _ _ _ _ _ _ _ _ _ _ _ h.2 H locs ls hP hD hS hl
    rcases Classical.em (x = 17) with e_17 | e_17
    · refine lv_tableIn (tgt := 557) hx hb dL_law_32 (by rw [e_17]; decide) (by rw [e_17]; decide) (by rw [e_17]; rfl) (by decide) ?_
      have h := hop.2.2.2.2.2.2.2.2.2.2.2.2.2.2.2.2.2.1 vn vf vs vp vq vd vo un uf us up uq ud uo tm tx hc hh ss sv mn mf mk mg mv mt mm s1 hI
      refine lv_aload_n hx hb dL_law_557 rfl (lv_at hl 1 rfl) ?_
      refine lv_aload_n hx hb dL_law_558 rfl (lv_at hl 0 rfl) ?_
      refine lv_iload_n hx hb dL_law_559 rfl (lv_at hl 3 rfl) ?_
      refine lv_iconst (v := 1) hx hb dL_law_560 (by decide) ?_
      refine lv_iadd hx hb dL_law_561 ?_
      refine va_sld hx hb hX hbl hbA hS g_1 dL_law_562 ?_
      rw [hs1]
      have hP : va_P G vwCl ([] ++ (mo_W cy g a b0 t vn vf vs vp vq vd vo un uf us up uq ud uo tm tx hc hh ss sv ++ md_W cy d mn mf mk mg mv mt mm)) H := hP
      have hD : va_D (fun q : Nat => s.heap.size ≤ q) ([] ++ (mo_W cy g a b0 t vn vf vs vp vq vd vo un uf us up uq ud uo tm tx hc hh ss sv ++ md_W cy d mn mf mk mg mv mt mm)) := hD
      refine kc_Vi (L := []) (w0 := mo_W cy g a b0 t vn vf vs vp vq vd vo un uf us up uq ud uo tm tx hc hh ss sv) (R' := md_W cy d mn mf mk mg mv mt mm) (As := [.int s1]) (rest := []) S hE (ctX6_bits l G cy g a b0 t vn vf vs vp vq vd vo un uf us up uq ud uo tm tx hc hh ss sv s1 _ h) q_28_15 q_28_16 q_28_17 q_1_2 q_28_18 rfl 0 rfl rfl ydX6_bits ⟨⟨rfl, rfl⟩, ⟨Nat.le_of_ble_eq_true rfl, Nat.le_of_ble_eq_true rfl⟩⟩ ⟨Nat.le_refl _, Nat.le_refl _⟩ hP hD hS rfl hl.1 rfl (Nat.le_of_ble_eq_true rfl) dL_law_563 (fun r u H locs h hP hD hS => ?_)
      refine lv_aload_n hx hb dL_law_566 rfl (lv_at hl 2 rfl) ?_
      refine lv_aload_n hx hb dL_law_567 rfl (lv_at hl 0 rfl) ?_
      refine lv_iload_n hx hb dL_law_568 rfl (lv_at hl 3 rfl) ?_
      refine lv_iconst (v := 1) hx hb dL_law_569 (by decide) ?_
      refine lv_iadd hx hb dL_law_570 ?_
      refine va_sld hx hb hX hbl hbA hS g_1 dL_law_571 ?_
      rw [hs1]
      have hP : va_P G vwCl (mo_W cy g a b0 t vn vf vs vp vq vd vo un uf us up uq ud uo tm tx hc hh ss sv ++ (md_W cy d mn mf mk mg mv mt mm ++ [])) H := by simpa only [List.append_nil, List.nil_append] using hP
      have hD : va_D (fun q : Nat => s.heap.size ≤ q) (mo_W cy g a b0 t vn vf vs vp vq vd vo un uf us up uq ud uo tm tx hc hh ss sv ++ (md_W cy d mn mf mk mg mv mt mm ++ [])) := by simpa only [List.append_nil, List.nil_append] using hD
      refine kc_Vi (L := mo_W cy g a b0 t vn vf vs vp vq vd vo un uf us up uq ud uo tm tx hc hh ss sv) (w0 := md_W cy d mn mf mk mg mv mt mm) (R' := []) (As := [.int s1]) (rest := [.int r]) S hE (ctX7_bits l G cy d mn mf mk mg mv mt mm s1 _ h) q_29_13 q_29_14 q_29_15 q_1_5 q_29_16 rfl 0 rfl rfl ydX7_bits ⟨⟨rfl, rfl⟩, ⟨Nat.le_of_ble_eq_true rfl, Nat.le_of_ble_eq_true rfl⟩⟩ ⟨Nat.le_refl _, Nat.le_refl _⟩ hP hD hS rfl hl.1 rfl (Nat.le_of_ble_eq_true rfl) dL_law_572 (fun q z H locs h hP hD hS => ?_)
      have hP : va_P G vwCl (mo_W cy g a b0 t vn vf vs vp vq vd vo un uf us up uq ud uo tm tx hc hh ss sv ++ md_W cy d mn mf mk mg mv mt mm) H := by simpa only [List.append_nil] using hP
      have hD : va_D (fun q : Nat => s.heap.size ≤ q) (mo_W cy g a b0 t vn vf vs vp vq vd vo un uf us up uq ud uo tm tx hc hh ss sv ++ md_W cy d mn mf mk mg mv mt mm) := by simpa only [List.append_nil] using hD
      refine lv_icmp_eq (tgt := 810) hx hb dL_law_575 (by decide) (fun _ => ?_) (fun q => absurd h.1 q)
      exact J _ _ _ _ _ _ _ _ _ _ _ _ _ _ _ _ _ _ _ _ _ _ _ _ _ _ _ h.2 H locs ls hP hD hS hl
    rcases Classical.em (x = 18) with e_18 | e_18
    · refine lv_tableIn (tgt := 580) hx hb dL_law_32 (by rw [e_18]; decide) (by rw [e_18]; decide) (by rw [e_18]; rfl) (by decide) ?_
      have h := hop.2.2.2.2.2.2.2.2.2.2.2.2.2.2.2.2.2.2.1 vn vf vs vp vq vd vo un uf us up uq ud uo tm tx hc hh ss sv mn mf mk mg mv mt mm s1 hI
      refine lv_aload_n hx hb dL_law_580 rfl (lv_at hl 1 rfl) ?_
      refine lv_aload_n hx hb dL_law_581 rfl (lv_at hl 0 rfl) ?_
      refine lv_iload_n hx hb dL_law_582 rfl (lv_at hl 3 rfl) ?_
      refine lv_iconst (v := 1) hx hb dL_law_583 (by decide) ?_
      refine lv_iadd hx hb dL_law_584 ?_
      refine va_sld hx hb hX hbl hbA hS g_1 dL_law_585 ?_
      rw [hs1]
      have hP : va_P G vwCl ([] ++ (mo_W cy g a b0 t vn vf vs vp vq vd vo un uf us up uq ud uo tm tx hc hh ss sv ++ md_W cy d mn mf mk mg mv mt mm)) H := hP
      have hD : va_D (fun q : Nat => s.heap.size ≤ q) ([] ++ (mo_W cy g a b0 t vn vf vs vp vq vd vo un uf us up uq ud uo tm tx hc hh ss sv ++ md_W cy d mn mf mk mg mv mt mm)) := hD
      refine kc_Vi (L := []) (w0 := mo_W cy g a b0 t vn vf vs vp vq vd vo un uf us up uq ud uo tm tx hc hh ss sv) (R' := md_W cy d mn mf mk mg mv mt mm) (As := [.int s1]) (rest := []) S hE (ctX6_thousandths l G cy g a b0 t vn vf vs vp vq vd vo un uf us up uq ud uo tm tx hc hh ss sv s1 _ h) q_30_2 q_30_3 q_30_4 q_1_2 q_30_5 rfl 0 rfl rfl ydX6_thousandths ⟨⟨rfl, rfl⟩, ⟨Nat.le_of_ble_eq_true rfl, Nat.le_of_ble_eq_true rfl⟩⟩ ⟨Nat.le_refl _, Nat.le_refl _⟩ hP hD hS rfl hl.1 rfl (Nat.le_of_ble_eq_true rfl) dL_law_586 (fun r u H locs h hP hD hS => ?_)
      refine lv_aload_n hx hb dL_law_589 rfl (lv_at hl 2 rfl) ?_
      refine lv_aload_n hx hb dL_law_590 rfl (lv_at hl 0 rfl) ?_
      refine lv_iload_n hx hb dL_law_591 rfl (lv_at hl 3 rfl) ?_
      refine lv_iconst (v := 1) hx hb dL_law_592 (by decide) ?_
      refine lv_iadd hx hb dL_law_593 ?_
      refine va_sld hx hb hX hbl hbA hS g_1 dL_law_594 ?_
      rw [hs1]
      have hP : va_P G vwCl (mo_W cy g a b0 t vn vf vs vp vq vd vo un uf us up uq ud uo tm tx hc hh ss sv ++ (md_W cy d mn mf mk mg mv mt mm ++ [])) H := by simpa only [List.append_nil, List.nil_append] using hP
      have hD : va_D (fun q : Nat => s.heap.size ≤ q) (mo_W cy g a b0 t vn vf vs vp vq vd vo un uf us up uq ud uo tm tx hc hh ss sv ++ (md_W cy d mn mf mk mg mv mt mm ++ [])) := by simpa only [List.append_nil, List.nil_append] using hD
      refine kc_Vi (L := mo_W cy g a b0 t vn vf vs vp vq vd vo un uf us up uq ud uo tm tx hc hh ss sv) (w0 := md_W cy d mn mf mk mg mv mt mm) (R' := []) (As := [.int s1]) (rest := [.int r]) S hE (ctX7_thousandths l G cy d mn mf mk mg mv mt mm s1 _ h) q_30_6 q_30_7 q_30_8 q_1_5 q_30_9 rfl 0 rfl rfl ydX7_thousandths ⟨⟨rfl, rfl⟩, ⟨Nat.le_of_ble_eq_true rfl, Nat.le_of_ble_eq_true rfl⟩⟩ ⟨Nat.le_refl _, Nat.le_refl _⟩ hP hD hS rfl hl.1 rfl (Nat.le_of_ble_eq_true rfl) dL_law_595 (fun q z H locs h hP hD hS => ?_)
      have hP : va_P G vwCl (mo_W cy g a b0 t vn vf vs vp vq vd vo un uf us up uq ud uo tm tx hc hh ss sv ++ md_W cy d mn mf mk mg mv mt mm) H := by simpa only [List.append_nil] using hP
      have hD : va_D (fun q : Nat => s.heap.size ≤ q) (mo_W cy g a b0 t vn vf vs vp vq vd vo un uf us up uq ud uo tm tx hc hh ss sv ++ md_W cy d mn mf mk mg mv mt mm) := by simpa only [List.append_nil] using hD
      refine lv_icmp_eq (tgt := 810) hx hb dL_law_598 (by decide) (fun _ => ?_) (fun q => absurd h.1 q)
      exact J _ _ _ _ _ _ _ _ _ _ _ _ _ _ _ _ _ _ _ _ _ _ _ _ _ _ _ h.2 H locs ls hP hD hS hl
    rcases Classical.em (x = 19) with e_19 | e_19
    · refine lv_tableIn (tgt := 603) hx hb dL_law_32 (by rw [e_19]; decide) (by rw [e_19]; decide) (by rw [e_19]; rfl) (by decide) ?_
      have h := hop.2.2.2.2.2.2.2.2.2.2.2.2.2.2.2.2.2.2.2.1 vn vf vs vp vq vd vo un uf us up uq ud uo tm tx hc hh ss sv mn mf mk mg mv mt mm s1 hI
      refine lv_aload_n hx hb dL_law_603 rfl (lv_at hl 1 rfl) ?_
      refine lv_aload_n hx hb dL_law_604 rfl (lv_at hl 0 rfl) ?_
      refine lv_iload_n hx hb dL_law_605 rfl (lv_at hl 3 rfl) ?_
      refine lv_iconst (v := 1) hx hb dL_law_606 (by decide) ?_
      refine lv_iadd hx hb dL_law_607 ?_
      refine va_sld hx hb hX hbl hbA hS g_1 dL_law_608 ?_
      rw [hs1]
      have hP : va_P G vwCl ([] ++ (mo_W cy g a b0 t vn vf vs vp vq vd vo un uf us up uq ud uo tm tx hc hh ss sv ++ md_W cy d mn mf mk mg mv mt mm)) H := hP
      have hD : va_D (fun q : Nat => s.heap.size ≤ q) ([] ++ (mo_W cy g a b0 t vn vf vs vp vq vd vo un uf us up uq ud uo tm tx hc hh ss sv ++ md_W cy d mn mf mk mg mv mt mm)) := hD
      refine kc_Vi (L := []) (w0 := mo_W cy g a b0 t vn vf vs vp vq vd vo un uf us up uq ud uo tm tx hc hh ss sv) (R' := md_W cy d mn mf mk mg mv mt mm) (As := [.int s1]) (rest := []) S hE (ctX6_limit l G cy g a b0 t vn vf vs vp vq vd vo un uf us up uq ud uo tm tx hc hh ss sv s1 _ h) q_30_10 q_30_11 q_30_12 q_1_2 q_30_13 rfl 0 rfl rfl ydX6_limit ⟨⟨rfl, rfl⟩, ⟨Nat.le_of_ble_eq_true rfl, Nat.le_of_ble_eq_true rfl⟩⟩ ⟨Nat.le_refl _, Nat.le_refl _⟩ hP hD hS rfl hl.1 rfl (Nat.le_of_ble_eq_true rfl) dL_law_609 (fun r u H locs h hP hD hS => ?_)
      refine lv_aload_n hx hb dL_law_612 rfl (lv_at hl 2 rfl) ?_
      refine lv_aload_n hx hb dL_law_613 rfl (lv_at hl 0 rfl) ?_
      refine lv_iload_n hx hb dL_law_614 rfl (lv_at hl 3 rfl) ?_
      refine lv_iconst (v := 1) hx hb dL_law_615 (by decide) ?_
      refine lv_iadd hx hb dL_law_616 ?_
      refine va_sld hx hb hX hbl hbA hS g_1 dL_law_617 ?_
      rw [hs1]
      have hP : va_P G vwCl (mo_W cy g a b0 t vn vf vs vp vq vd vo un uf us up uq ud uo tm tx hc hh ss sv ++ (md_W cy d mn mf mk mg mv mt mm ++ [])) H := by simpa only [List.append_nil, List.nil_append] using hP
      have hD : va_D (fun q : Nat => s.heap.size ≤ q) (mo_W cy g a b0 t vn vf vs vp vq vd vo un uf us up uq ud uo tm tx hc hh ss sv ++ (md_W cy d mn mf mk mg mv mt mm ++ [])) := by simpa only [List.append_nil, List.nil_append] using hD
      refine kc_Vi (L := mo_W cy g a b0 t vn vf vs vp vq vd vo un uf us up uq ud uo tm tx hc hh ss sv) (w0 := md_W cy d mn mf mk mg mv mt mm) (R' := []) (As := [.int s1]) (rest := [.int r]) S hE (ctX7_limit l G cy d mn mf mk mg mv mt mm s1 _ h) q_30_14 q_30_15 q_30_16 q_1_5 q_30_17 rfl 0 rfl rfl ydX7_limit ⟨⟨rfl, rfl⟩, ⟨Nat.le_of_ble_eq_true rfl, Nat.le_of_ble_eq_true rfl⟩⟩ ⟨Nat.le_refl _, Nat.le_refl _⟩ hP hD hS rfl hl.1 rfl (Nat.le_of_ble_eq_true rfl) dL_law_618 (fun q z H locs h hP hD hS => ?_)
      have hP : va_P G vwCl (mo_W cy g a b0 t vn vf vs vp vq vd vo un uf us up uq ud uo tm tx hc hh ss sv ++ md_W cy d mn mf mk mg mv mt mm) H := by simpa only [List.append_nil] using hP
      have hD : va_D (fun q : Nat => s.heap.size ≤ q) (mo_W cy g a b0 t vn vf vs vp vq vd vo un uf us up uq ud uo tm tx hc hh ss sv ++ md_W cy d mn mf mk mg mv mt mm) := by simpa only [List.append_nil] using hD
      refine lv_icmp_eq (tgt := 810) hx hb dL_law_621 (by decide) (fun _ => ?_) (fun q => absurd h.1 q)
      exact J _ _ _ _ _ _ _ _ _ _ _ _ _ _ _ _ _ _ _ _ _ _ _ _ _ _ _ h.2 H locs ls hP hD hS hl
    rcases Classical.em (x = 20) with e_20 | e_20
    · refine lv_tableIn (tgt := 626) hx hb dL_law_32 (by rw [e_20]; decide) (by rw [e_20]; decide) (by rw [e_20]; rfl) (by decide) ?_
      have h := hop.2.2.2.2.2.2.2.2.2.2.2.2.2.2.2.2.2.2.2.2.1 vn vf vs vp vq vd vo un uf us up uq ud uo tm tx hc hh ss sv mn mf mk mg mv mt mm  hI
      refine lv_aload_n hx hb dL_law_626 rfl (lv_at hl 1 rfl) ?_
      have hP : va_P G vwCl ([] ++ (mo_W cy g a b0 t vn vf vs vp vq vd vo un uf us up uq ud uo tm tx hc hh ss sv ++ md_W cy d mn mf mk mg mv mt mm)) H := hP
      have hD : va_D (fun q : Nat => s.heap.size ≤ q) ([] ++ (mo_W cy g a b0 t vn vf vs vp vq vd vo un uf us up uq ud uo tm tx hc hh ss sv ++ md_W cy d mn mf mk mg mv mt mm)) := hD
      refine kc_Vi (L := []) (w0 := mo_W cy g a b0 t vn vf vs vp vq vd vo un uf us up uq ud uo tm tx hc hh ss sv) (R' := md_W cy d mn mf mk mg mv mt mm) (As := []) (rest := []) S hE (ctX6_judgement l G cy g a b0 t vn vf vs vp vq vd vo un uf us up uq ud uo tm tx hc hh ss sv  _ h) q_30_18 q_30_19 q_30_20 q_1_2 q_30_21 rfl 0 rfl rfl ydX6_judgement ⟨⟨rfl, rfl⟩, ⟨Nat.le_of_ble_eq_true rfl, Nat.le_of_ble_eq_true rfl⟩⟩ ⟨Nat.le_refl _, Nat.le_refl _⟩ hP hD hS rfl hl.1 rfl (Nat.le_of_ble_eq_true rfl) dL_law_627 (fun r u H locs h hP hD hS => ?_)
      refine lv_aload_n hx hb dL_law_630 rfl (lv_at hl 2 rfl) ?_
      have hP : va_P G vwCl (mo_W cy g a b0 t vn vf vs vp vq vd vo un uf us up uq ud uo tm tx hc hh ss sv ++ (md_W cy d mn mf mk mg mv mt mm ++ [])) H := by simpa only [List.append_nil, List.nil_append] using hP
      have hD : va_D (fun q : Nat => s.heap.size ≤ q) (mo_W cy g a b0 t vn vf vs vp vq vd vo un uf us up uq ud uo tm tx hc hh ss sv ++ (md_W cy d mn mf mk mg mv mt mm ++ [])) := by simpa only [List.append_nil, List.nil_append] using hD
      refine kc_Vi (L := mo_W cy g a b0 t vn vf vs vp vq vd vo un uf us up uq ud uo tm tx hc hh ss sv) (w0 := md_W cy d mn mf mk mg mv mt mm) (R' := []) (As := []) (rest := [.int r]) S hE (ctX7_judgement l G cy d mn mf mk mg mv mt mm  _ h) q_30_22 q_30_23 q_31_0 q_1_5 q_31_1 rfl 0 rfl rfl ydX7_judgement ⟨⟨rfl, rfl⟩, ⟨Nat.le_of_ble_eq_true rfl, Nat.le_of_ble_eq_true rfl⟩⟩ ⟨Nat.le_refl _, Nat.le_refl _⟩ hP hD hS rfl hl.1 rfl (Nat.le_of_ble_eq_true rfl) dL_law_631 (fun q z H locs h hP hD hS => ?_)
      have hP : va_P G vwCl (mo_W cy g a b0 t vn vf vs vp vq vd vo un uf us up uq ud uo tm tx hc hh ss sv ++ md_W cy d mn mf mk mg mv mt mm) H := by simpa only [List.append_nil] using hP
      have hD : va_D (fun q : Nat => s.heap.size ≤ q) (mo_W cy g a b0 t vn vf vs vp vq vd vo un uf us up uq ud uo tm tx hc hh ss sv ++ md_W cy d mn mf mk mg mv mt mm) := by simpa only [List.append_nil] using hD
      refine lv_icmp_eq (tgt := 810) hx hb dL_law_634 (by decide) (fun _ => ?_) (fun q => absurd h.1 q)
      exact J _ _ _ _ _ _ _ _ _ _ _ _ _ _ _ _ _ _ _ _ _ _ _ _ _ _ _ h.2 H locs ls hP hD hS hl
    rcases Classical.em (x = 21) with e_21 | e_21
    · refine lv_tableIn (tgt := 639) hx hb dL_law_32 (by rw [e_21]; decide) (by rw [e_21]; decide) (by rw [e_21]; rfl) (by decide) ?_
      have h := hop.2.2.2.2.2.2.2.2.2.2.2.2.2.2.2.2.2.2.2.2.2.1 vn vf vs vp vq vd vo un uf us up uq ud uo tm tx hc hh ss sv mn mf mk mg mv mt mm s1 s2 hI
      refine lv_aload_n hx hb dL_law_639 rfl (lv_at hl 1 rfl) ?_
      refine lv_aload_n hx hb dL_law_640 rfl (lv_at hl 0 rfl) ?_
      refine lv_iload_n hx hb dL_law_641 rfl (lv_at hl 3 rfl) ?_
      refine lv_iconst (v := 1) hx hb dL_law_642 (by decide) ?_
      refine lv_iadd hx hb dL_law_643 ?_
      refine va_sld hx hb hX hbl hbA hS g_1 dL_law_644 ?_
      rw [hs1]
      refine lv_aload_n hx hb dL_law_645 rfl (lv_at hl 0 rfl) ?_
      refine lv_iload_n hx hb dL_law_646 rfl (lv_at hl 3 rfl) ?_
      refine lv_iconst (v := 2) hx hb dL_law_647 (by decide) ?_
      refine lv_iadd hx hb dL_law_648 ?_
      refine va_sld hx hb hX hbl hbA hS g_2 dL_law_649 ?_
      rw [hs2]
      have hP : va_P G vwCl ([] ++ (mo_W cy g a b0 t vn vf vs vp vq vd vo un uf us up uq ud uo tm tx hc hh ss sv ++ md_W cy d mn mf mk mg mv mt mm)) H := hP
      have hD : va_D (fun q : Nat => s.heap.size ≤ q) ([] ++ (mo_W cy g a b0 t vn vf vs vp vq vd vo un uf us up uq ud uo tm tx hc hh ss sv ++ md_W cy d mn mf mk mg mv mt mm)) := hD
      refine kc_Vi (L := []) (w0 := mo_W cy g a b0 t vn vf vs vp vq vd vo un uf us up uq ud uo tm tx hc hh ss sv) (R' := md_W cy d mn mf mk mg mv mt mm) (As := [.int s1, .int s2]) (rest := []) S hE (ctX6_stop l G cy g a b0 t vn vf vs vp vq vd vo un uf us up uq ud uo tm tx hc hh ss sv s1 s2 _ h) q_31_2 q_31_3 q_31_4 q_1_2 q_31_5 rfl 0 rfl rfl ydX6_stop ⟨⟨rfl, rfl⟩, ⟨Nat.le_of_ble_eq_true rfl, Nat.le_of_ble_eq_true rfl⟩⟩ ⟨Nat.le_refl _, Nat.le_refl _⟩ hP hD hS rfl hl.1 rfl (Nat.le_of_ble_eq_true rfl) dL_law_650 (fun r u H locs h hP hD hS => ?_)
      refine lv_aload_n hx hb dL_law_653 rfl (lv_at hl 2 rfl) ?_
      refine lv_aload_n hx hb dL_law_654 rfl (lv_at hl 0 rfl) ?_
      refine lv_iload_n hx hb dL_law_655 rfl (lv_at hl 3 rfl) ?_
      refine lv_iconst (v := 1) hx hb dL_law_656 (by decide) ?_
      refine lv_iadd hx hb dL_law_657 ?_
      refine va_sld hx hb hX hbl hbA hS g_1 dL_law_658 ?_
      rw [hs1]
      refine lv_aload_n hx hb dL_law_659 rfl (lv_at hl 0 rfl) ?_
      refine lv_iload_n hx hb dL_law_660 rfl (lv_at hl 3 rfl) ?_
      refine lv_iconst (v := 2) hx hb dL_law_661 (by decide) ?_
      refine lv_iadd hx hb dL_law_662 ?_
      refine va_sld hx hb hX hbl hbA hS g_2 dL_law_663 ?_
      rw [hs2]
      have hP : va_P G vwCl (mo_W cy g a b0 t vn vf vs vp vq vd vo un uf us up uq ud uo tm tx hc hh ss sv ++ (md_W cy d mn mf mk mg mv mt mm ++ [])) H := by simpa only [List.append_nil, List.nil_append] using hP
      have hD : va_D (fun q : Nat => s.heap.size ≤ q) (mo_W cy g a b0 t vn vf vs vp vq vd vo un uf us up uq ud uo tm tx hc hh ss sv ++ (md_W cy d mn mf mk mg mv mt mm ++ [])) := by simpa only [List.append_nil, List.nil_append] using hD
      refine kc_Vi (L := mo_W cy g a b0 t vn vf vs vp vq vd vo un uf us up uq ud uo tm tx hc hh ss sv) (w0 := md_W cy d mn mf mk mg mv mt mm) (R' := []) (As := [.int s1, .int s2]) (rest := [.int r]) S hE (ctX7_stop l G cy d mn mf mk mg mv mt mm s1 s2 _ h) q_31_10 q_31_11 q_31_12 q_1_5 q_31_13 rfl 0 rfl rfl ydX7_stop ⟨⟨rfl, rfl⟩, ⟨Nat.le_of_ble_eq_true rfl, Nat.le_of_ble_eq_true rfl⟩⟩ ⟨Nat.le_refl _, Nat.le_refl _⟩ hP hD hS rfl hl.1 rfl (Nat.le_of_ble_eq_true rfl) dL_law_664 (fun q z H locs h hP hD hS => ?_)
      have hP : va_P G vwCl (mo_W cy g a b0 t vn vf vs vp vq vd vo un uf us up uq ud uo tm tx hc hh ss sv ++ md_W cy d mn mf mk mg mv mt mm) H := by simpa only [List.append_nil] using hP
      have hD : va_D (fun q : Nat => s.heap.size ≤ q) (mo_W cy g a b0 t vn vf vs vp vq vd vo un uf us up uq ud uo tm tx hc hh ss sv ++ md_W cy d mn mf mk mg mv mt mm) := by simpa only [List.append_nil] using hD
      refine lv_icmp_eq (tgt := 810) hx hb dL_law_667 (by decide) (fun _ => ?_) (fun q => absurd h.1 q)
      exact J _ _ _ _ _ _ _ _ _ _ _ _ _ _ _ _ _ _ _ _ _ _ _ _ _ _ _ h.2 H locs ls hP hD hS hl
    rcases Classical.em (x = 22) with e_22 | e_22
    · refine lv_tableIn (tgt := 672) hx hb dL_law_32 (by rw [e_22]; decide) (by rw [e_22]; decide) (by rw [e_22]; rfl) (by decide) ?_
      have h := hop.2.2.2.2.2.2.2.2.2.2.2.2.2.2.2.2.2.2.2.2.2.2.1 vn vf vs vp vq vd vo un uf us up uq ud uo tm tx hc hh ss sv mn mf mk mg mv mt mm s1 s2 hI
      refine lv_aload_n hx hb dL_law_672 rfl (lv_at hl 1 rfl) ?_
      refine lv_aload_n hx hb dL_law_673 rfl (lv_at hl 0 rfl) ?_
      refine lv_iload_n hx hb dL_law_674 rfl (lv_at hl 3 rfl) ?_
      refine lv_iconst (v := 1) hx hb dL_law_675 (by decide) ?_
      refine lv_iadd hx hb dL_law_676 ?_
      refine va_sld hx hb hX hbl hbA hS g_1 dL_law_677 ?_
      rw [hs1]
      refine lv_aload_n hx hb dL_law_678 rfl (lv_at hl 0 rfl) ?_
      refine lv_iload_n hx hb dL_law_679 rfl (lv_at hl 3 rfl) ?_
      refine lv_iconst (v := 2) hx hb dL_law_680 (by decide) ?_
      refine lv_iadd hx hb dL_law_681 ?_
      refine va_sld hx hb hX hbl hbA hS g_2 dL_law_682 ?_
      rw [hs2]
      have hP : va_P G vwCl ([] ++ (mo_W cy g a b0 t vn vf vs vp vq vd vo un uf us up uq ud uo tm tx hc hh ss sv ++ md_W cy d mn mf mk mg mv mt mm)) H := hP
      have hD : va_D (fun q : Nat => s.heap.size ≤ q) ([] ++ (mo_W cy g a b0 t vn vf vs vp vq vd vo un uf us up uq ud uo tm tx hc hh ss sv ++ md_W cy d mn mf mk mg mv mt mm)) := hD
      refine kc_Vi (L := []) (w0 := mo_W cy g a b0 t vn vf vs vp vq vd vo un uf us up uq ud uo tm tx hc hh ss sv) (R' := md_W cy d mn mf mk mg mv mt mm) (As := [.int s1, .int s2]) (rest := []) S hE (ctX6_point l G cy g a b0 t vn vf vs vp vq vd vo un uf us up uq ud uo tm tx hc hh ss sv s1 s2 _ h) q_31_14 q_31_15 q_31_16 q_1_2 q_31_17 rfl 0 rfl rfl ydX6_point ⟨⟨rfl, rfl⟩, ⟨Nat.le_of_ble_eq_true rfl, Nat.le_of_ble_eq_true rfl⟩⟩ ⟨Nat.le_refl _, Nat.le_refl _⟩ hP hD hS rfl hl.1 rfl (Nat.le_of_ble_eq_true rfl) dL_law_683 (fun r u H locs h hP hD hS => ?_)
      refine lv_aload_n hx hb dL_law_686 rfl (lv_at hl 2 rfl) ?_
      refine lv_aload_n hx hb dL_law_687 rfl (lv_at hl 0 rfl) ?_
      refine lv_iload_n hx hb dL_law_688 rfl (lv_at hl 3 rfl) ?_
      refine lv_iconst (v := 1) hx hb dL_law_689 (by decide) ?_
      refine lv_iadd hx hb dL_law_690 ?_
      refine va_sld hx hb hX hbl hbA hS g_1 dL_law_691 ?_
      rw [hs1]
      refine lv_aload_n hx hb dL_law_692 rfl (lv_at hl 0 rfl) ?_
      refine lv_iload_n hx hb dL_law_693 rfl (lv_at hl 3 rfl) ?_
      refine lv_iconst (v := 2) hx hb dL_law_694 (by decide) ?_
      refine lv_iadd hx hb dL_law_695 ?_
      refine va_sld hx hb hX hbl hbA hS g_2 dL_law_696 ?_
      rw [hs2]
      have hP : va_P G vwCl (mo_W cy g a b0 t vn vf vs vp vq vd vo un uf us up uq ud uo tm tx hc hh ss sv ++ (md_W cy d mn mf mk mg mv mt mm ++ [])) H := by simpa only [List.append_nil, List.nil_append] using hP
      have hD : va_D (fun q : Nat => s.heap.size ≤ q) (mo_W cy g a b0 t vn vf vs vp vq vd vo un uf us up uq ud uo tm tx hc hh ss sv ++ (md_W cy d mn mf mk mg mv mt mm ++ [])) := by simpa only [List.append_nil, List.nil_append] using hD
      refine kc_Vi (L := mo_W cy g a b0 t vn vf vs vp vq vd vo un uf us up uq ud uo tm tx hc hh ss sv) (w0 := md_W cy d mn mf mk mg mv mt mm) (R' := []) (As := [.int s1, .int s2]) (rest := [.int r]) S hE (ctX7_point l G cy d mn mf mk mg mv mt mm s1 s2 _ h) q_31_20 q_31_21 q_31_22 q_1_5 q_31_23 rfl 0 rfl rfl ydX7_point ⟨⟨rfl, rfl⟩, ⟨Nat.le_of_ble_eq_true rfl, Nat.le_of_ble_eq_true rfl⟩⟩ ⟨Nat.le_refl _, Nat.le_refl _⟩ hP hD hS rfl hl.1 rfl (Nat.le_of_ble_eq_true rfl) dL_law_697 (fun q z H locs h hP hD hS => ?_)
      have hP : va_P G vwCl (mo_W cy g a b0 t vn vf vs vp vq vd vo un uf us up uq ud uo tm tx hc hh ss sv ++ md_W cy d mn mf mk mg mv mt mm) H := by simpa only [List.append_nil] using hP
      have hD : va_D (fun q : Nat => s.heap.size ≤ q) (mo_W cy g a b0 t vn vf vs vp vq vd vo un uf us up uq ud uo tm tx hc hh ss sv ++ md_W cy d mn mf mk mg mv mt mm) := by simpa only [List.append_nil] using hD
      refine lv_icmp_eq (tgt := 810) hx hb dL_law_700 (by decide) (fun _ => ?_) (fun q => absurd h.1 q)
      exact J _ _ _ _ _ _ _ _ _ _ _ _ _ _ _ _ _ _ _ _ _ _ _ _ _ _ _ h.2 H locs ls hP hD hS hl
    rcases Classical.em (x = 23) with e_23 | e_23
    · refine lv_tableIn (tgt := 705) hx hb dL_law_32 (by rw [e_23]; decide) (by rw [e_23]; decide) (by rw [e_23]; rfl) (by decide) ?_
      have h := hop.2.2.2.2.2.2.2.2.2.2.2.2.2.2.2.2.2.2.2.2.2.2.2.1 vn vf vs vp vq vd vo un uf us up uq ud uo tm tx hc hh ss sv mn mf mk mg mv mt mm s1 hI
      refine lv_aload_n hx hb dL_law_705 rfl (lv_at hl 1 rfl) ?_
      refine lv_aload_n hx hb dL_law_706 rfl (lv_at hl 0 rfl) ?_
      refine lv_iload_n hx hb dL_law_707 rfl (lv_at hl 3 rfl) ?_
      refine lv_iconst (v := 1) hx hb dL_law_708 (by decide) ?_
      refine lv_iadd hx hb dL_law_709 ?_
      refine va_sld hx hb hX hbl hbA hS g_1 dL_law_710 ?_
      rw [hs1]
      have hP : va_P G vwCl ([] ++ (mo_W cy g a b0 t vn vf vs vp vq vd vo un uf us up uq ud uo tm tx hc hh ss sv ++ md_W cy d mn mf mk mg mv mt mm)) H := hP
      have hD : va_D (fun q : Nat => s.heap.size ≤ q) ([] ++ (mo_W cy g a b0 t vn vf vs vp vq vd vo un uf us up uq ud uo tm tx hc hh ss sv ++ md_W cy d mn mf mk mg mv mt mm)) := hD
      refine kc_Vi (L := []) (w0 := mo_W cy g a b0 t vn vf vs vp vq vd vo un uf us up uq ud uo tm tx hc hh ss sv) (R' := md_W cy d mn mf mk mg mv mt mm) (As := [.int s1]) (rest := []) S hE (ctX6_total l G cy g a b0 t vn vf vs vp vq vd vo un uf us up uq ud uo tm tx hc hh ss sv s1 _ h) q_32_0 q_32_1 q_32_2 q_1_2 q_32_3 rfl 0 rfl rfl ydX6_total ⟨⟨rfl, rfl⟩, ⟨Nat.le_of_ble_eq_true rfl, Nat.le_of_ble_eq_true rfl⟩⟩ ⟨Nat.le_refl _, Nat.le_refl _⟩ hP hD hS rfl hl.1 rfl (Nat.le_of_ble_eq_true rfl) dL_law_711 (fun r u H locs h hP hD hS => ?_)
      refine lv_aload_n hx hb dL_law_714 rfl (lv_at hl 2 rfl) ?_
      refine lv_aload_n hx hb dL_law_715 rfl (lv_at hl 0 rfl) ?_
      refine lv_iload_n hx hb dL_law_716 rfl (lv_at hl 3 rfl) ?_
      refine lv_iconst (v := 1) hx hb dL_law_717 (by decide) ?_
      refine lv_iadd hx hb dL_law_718 ?_
      refine va_sld hx hb hX hbl hbA hS g_1 dL_law_719 ?_
      rw [hs1]
      have hP : va_P G vwCl (mo_W cy g a b0 t vn vf vs vp vq vd vo un uf us up uq ud uo tm tx hc hh ss sv ++ (md_W cy d mn mf mk mg mv mt mm ++ [])) H := by simpa only [List.append_nil, List.nil_append] using hP
      have hD : va_D (fun q : Nat => s.heap.size ≤ q) (mo_W cy g a b0 t vn vf vs vp vq vd vo un uf us up uq ud uo tm tx hc hh ss sv ++ (md_W cy d mn mf mk mg mv mt mm ++ [])) := by simpa only [List.append_nil, List.nil_append] using hD
      refine kc_Vi (L := mo_W cy g a b0 t vn vf vs vp vq vd vo un uf us up uq ud uo tm tx hc hh ss sv) (w0 := md_W cy d mn mf mk mg mv mt mm) (R' := []) (As := [.int s1]) (rest := [.int r]) S hE (ctX7_total l G cy d mn mf mk mg mv mt mm s1 _ h) q_32_15 q_32_16 q_32_17 q_1_5 q_32_18 rfl 0 rfl rfl ydX7_total ⟨⟨rfl, rfl⟩, ⟨Nat.le_of_ble_eq_true rfl, Nat.le_of_ble_eq_true rfl⟩⟩ ⟨Nat.le_refl _, Nat.le_refl _⟩ hP hD hS rfl hl.1 rfl (Nat.le_of_ble_eq_true rfl) dL_law_720 (fun q z H locs h hP hD hS => ?_)
      have hP : va_P G vwCl (mo_W cy g a b0 t vn vf vs vp vq vd vo un uf us up uq ud uo tm tx hc hh ss sv ++ md_W cy d mn mf mk mg mv mt mm) H := by simpa only [List.append_nil] using hP
      have hD : va_D (fun q : Nat => s.heap.size ≤ q) (mo_W cy g a b0 t vn vf vs vp vq vd vo un uf us up uq ud uo tm tx hc hh ss sv ++ md_W cy d mn mf mk mg mv mt mm) := by simpa only [List.append_nil] using hD
      refine lv_icmp_eq (tgt := 810) hx hb dL_law_723 (by decide) (fun _ => ?_) (fun q => absurd h.1 q)
      exact J _ _ _ _ _ _ _ _ _ _ _ _ _ _ _ _ _ _ _ _ _ _ _ _ _ _ _ h.2 H locs ls hP hD hS hl
    rcases Classical.em (x = 24) with e_24 | e_24
    · refine lv_tableIn (tgt := 728) hx hb dL_law_32 (by rw [e_24]; decide) (by rw [e_24]; decide) (by rw [e_24]; rfl) (by decide) ?_
      have h := hop.2.2.2.2.2.2.2.2.2.2.2.2.2.2.2.2.2.2.2.2.2.2.2.2.1 vn vf vs vp vq vd vo un uf us up uq ud uo tm tx hc hh ss sv mn mf mk mg mv mt mm s1 hI
      refine lv_aload_n hx hb dL_law_728 rfl (lv_at hl 1 rfl) ?_
      refine lv_aload_n hx hb dL_law_729 rfl (lv_at hl 0 rfl) ?_
      refine lv_iload_n hx hb dL_law_730 rfl (lv_at hl 3 rfl) ?_
      refine lv_iconst (v := 1) hx hb dL_law_731 (by decide) ?_
      refine lv_iadd hx hb dL_law_732 ?_
      refine va_sld hx hb hX hbl hbA hS g_1 dL_law_733 ?_
      rw [hs1]
      have hP : va_P G vwCl ([] ++ (mo_W cy g a b0 t vn vf vs vp vq vd vo un uf us up uq ud uo tm tx hc hh ss sv ++ md_W cy d mn mf mk mg mv mt mm)) H := hP
      have hD : va_D (fun q : Nat => s.heap.size ≤ q) ([] ++ (mo_W cy g a b0 t vn vf vs vp vq vd vo un uf us up uq ud uo tm tx hc hh ss sv ++ md_W cy d mn mf mk mg mv mt mm)) := hD
      refine kc_Vi (L := []) (w0 := mo_W cy g a b0 t vn vf vs vp vq vd vo un uf us up uq ud uo tm tx hc hh ss sv) (R' := md_W cy d mn mf mk mg mv mt mm) (As := [.int s1]) (rest := []) S hE (ctX6_modeIn l G cy g a b0 t vn vf vs vp vq vd vo un uf us up uq ud uo tm tx hc hh ss sv s1 _ h) q_32_19 q_32_20 q_32_21 q_1_2 q_32_22 rfl 0 rfl rfl ydX6_modeIn ⟨⟨rfl, rfl⟩, ⟨Nat.le_of_ble_eq_true rfl, Nat.le_of_ble_eq_true rfl⟩⟩ ⟨Nat.le_refl _, Nat.le_refl _⟩ hP hD hS rfl hl.1 rfl (Nat.le_of_ble_eq_true rfl) dL_law_734 (fun r u H locs h hP hD hS => ?_)
      refine lv_aload_n hx hb dL_law_737 rfl (lv_at hl 2 rfl) ?_
      refine lv_aload_n hx hb dL_law_738 rfl (lv_at hl 0 rfl) ?_
      refine lv_iload_n hx hb dL_law_739 rfl (lv_at hl 3 rfl) ?_
      refine lv_iconst (v := 1) hx hb dL_law_740 (by decide) ?_
      refine lv_iadd hx hb dL_law_741 ?_
      refine va_sld hx hb hX hbl hbA hS g_1 dL_law_742 ?_
      rw [hs1]
      have hP : va_P G vwCl (mo_W cy g a b0 t vn vf vs vp vq vd vo u.1 u.2.1 u.2.2.1 u.2.2.2.1 u.2.2.2.2.1 u.2.2.2.2.2.1 u.2.2.2.2.2.2 tm tx hc hh ss sv ++ (md_W cy d mn mf mk mg mv mt mm ++ [])) H := by simpa only [List.append_nil, List.nil_append] using hP
      have hD : va_D (fun q : Nat => s.heap.size ≤ q) (mo_W cy g a b0 t vn vf vs vp vq vd vo u.1 u.2.1 u.2.2.1 u.2.2.2.1 u.2.2.2.2.1 u.2.2.2.2.2.1 u.2.2.2.2.2.2 tm tx hc hh ss sv ++ (md_W cy d mn mf mk mg mv mt mm ++ [])) := by simpa only [List.append_nil, List.nil_append] using hD
      refine kc_Vi (L := mo_W cy g a b0 t vn vf vs vp vq vd vo u.1 u.2.1 u.2.2.1 u.2.2.2.1 u.2.2.2.2.1 u.2.2.2.2.2.1 u.2.2.2.2.2.2 tm tx hc hh ss sv) (w0 := md_W cy d mn mf mk mg mv mt mm) (R' := []) (As := [.int s1]) (rest := [.int r]) S hE (ctX7_modeIn l G cy d mn mf mk mg mv mt mm s1 _ h) q_33_0 q_33_1 q_33_2 q_1_5 q_33_3 rfl 0 rfl rfl ydX7_modeIn ⟨⟨rfl, rfl⟩, ⟨Nat.le_of_ble_eq_true rfl, Nat.le_of_ble_eq_true rfl⟩⟩ ⟨Nat.le_refl _, Nat.le_refl _⟩ hP hD hS rfl hl.1 rfl (Nat.le_of_ble_eq_true rfl) dL_law_743 (fun q z H locs h hP hD hS => ?_)
      have hP : va_P G vwCl (mo_W cy g a b0 t vn vf vs vp vq vd vo u.1 u.2.1 u.2.2.1 u.2.2.2.1 u.2.2.2.2.1 u.2.2.2.2.2.1 u.2.2.2.2.2.2 tm tx hc hh ss sv ++ md_W cy d z.1 z.2.1 z.2.2.1 z.2.2.2 mv mt mm) H := by simpa only [List.append_nil] using hP
      have hD : va_D (fun q : Nat => s.heap.size ≤ q) (mo_W cy g a b0 t vn vf vs vp vq vd vo u.1 u.2.1 u.2.2.1 u.2.2.2.1 u.2.2.2.2.1 u.2.2.2.2.2.1 u.2.2.2.2.2.2 tm tx hc hh ss sv ++ md_W cy d z.1 z.2.1 z.2.2.1 z.2.2.2 mv mt mm) := by simpa only [List.append_nil] using hD
      refine lv_icmp_eq (tgt := 810) hx hb dL_law_746 (by decide) (fun _ => ?_) (fun q => absurd h.1 q)
      exact J _ _ _ _ _ _ _ _ _ _ _ _ _ _ _ _ _ _ _ _ _ _ _ _ _ _ _ h.2 H locs ls hP hD hS hl
    rcases Classical.em (x = 25) with e_25 | e_25
    · refine lv_tableIn (tgt := 751) hx hb dL_law_32 (by rw [e_25]; decide) (by rw [e_25]; decide) (by rw [e_25]; rfl) (by decide) ?_
      have h := hop.2.2.2.2.2.2.2.2.2.2.2.2.2.2.2.2.2.2.2.2.2.2.2.2.2.1 vn vf vs vp vq vd vo un uf us up uq ud uo tm tx hc hh ss sv mn mf mk mg mv mt mm s1 hI
      refine lv_aload_n hx hb dL_law_751 rfl (lv_at hl 1 rfl) ?_
      refine lv_aload_n hx hb dL_law_752 rfl (lv_at hl 0 rfl) ?_
      refine lv_iload_n hx hb dL_law_753 rfl (lv_at hl 3 rfl) ?_
      refine lv_iconst (v := 1) hx hb dL_law_754 (by decide) ?_
      refine lv_iadd hx hb dL_law_755 ?_
      refine va_sld hx hb hX hbl hbA hS g_1 dL_law_756 ?_
      rw [hs1]
      have hP : va_P G vwCl ([] ++ (mo_W cy g a b0 t vn vf vs vp vq vd vo un uf us up uq ud uo tm tx hc hh ss sv ++ md_W cy d mn mf mk mg mv mt mm)) H := hP
      have hD : va_D (fun q : Nat => s.heap.size ≤ q) ([] ++ (mo_W cy g a b0 t vn vf vs vp vq vd vo un uf us up uq ud uo tm tx hc hh ss sv ++ md_W cy d mn mf mk mg mv mt mm)) := hD
      refine kc_Vi (L := []) (w0 := mo_W cy g a b0 t vn vf vs vp vq vd vo un uf us up uq ud uo tm tx hc hh ss sv) (R' := md_W cy d mn mf mk mg mv mt mm) (As := [.int s1]) (rest := []) S hE (ctX6_secondsTo l G cy g a b0 t vn vf vs vp vq vd vo un uf us up uq ud uo tm tx hc hh ss sv s1 _ h) q_33_4 q_33_5 q_33_6 q_1_2 q_33_7 rfl 0 rfl rfl ydX6_secondsTo ⟨⟨rfl, rfl⟩, ⟨Nat.le_of_ble_eq_true rfl, Nat.le_of_ble_eq_true rfl⟩⟩ ⟨Nat.le_refl _, Nat.le_refl _⟩ hP hD hS rfl hl.1 rfl (Nat.le_of_ble_eq_true rfl) dL_law_757 (fun r u H locs h hP hD hS => ?_)
      refine lv_aload_n hx hb dL_law_760 rfl (lv_at hl 2 rfl) ?_
      refine lv_aload_n hx hb dL_law_761 rfl (lv_at hl 0 rfl) ?_
      refine lv_iload_n hx hb dL_law_762 rfl (lv_at hl 3 rfl) ?_
      refine lv_iconst (v := 1) hx hb dL_law_763 (by decide) ?_
      refine lv_iadd hx hb dL_law_764 ?_
      refine va_sld hx hb hX hbl hbA hS g_1 dL_law_765 ?_
      rw [hs1]
      have hP : va_P G vwCl (mo_W cy g a b0 t vn vf vs vp vq vd vo u.1 u.2.1 u.2.2.1 u.2.2.2.1 u.2.2.2.2.1 u.2.2.2.2.2.1 u.2.2.2.2.2.2 tm tx hc hh ss sv ++ (md_W cy d mn mf mk mg mv mt mm ++ [])) H := by simpa only [List.append_nil, List.nil_append] using hP
      have hD : va_D (fun q : Nat => s.heap.size ≤ q) (mo_W cy g a b0 t vn vf vs vp vq vd vo u.1 u.2.1 u.2.2.1 u.2.2.2.1 u.2.2.2.2.1 u.2.2.2.2.2.1 u.2.2.2.2.2.2 tm tx hc hh ss sv ++ (md_W cy d mn mf mk mg mv mt mm ++ [])) := by simpa only [List.append_nil, List.nil_append] using hD
      refine kc_Vi (L := mo_W cy g a b0 t vn vf vs vp vq vd vo u.1 u.2.1 u.2.2.1 u.2.2.2.1 u.2.2.2.2.1 u.2.2.2.2.2.1 u.2.2.2.2.2.2 tm tx hc hh ss sv) (w0 := md_W cy d mn mf mk mg mv mt mm) (R' := []) (As := [.int s1]) (rest := [.int r]) S hE (ctX7_secondsTo l G cy d mn mf mk mg mv mt mm s1 _ h) q_33_8 q_33_9 q_33_10 q_1_5 q_33_11 rfl 0 rfl rfl ydX7_secondsTo ⟨⟨rfl, rfl⟩, ⟨Nat.le_of_ble_eq_true rfl, Nat.le_of_ble_eq_true rfl⟩⟩ ⟨Nat.le_refl _, Nat.le_refl _⟩ hP hD hS rfl hl.1 rfl (Nat.le_of_ble_eq_true rfl) dL_law_766 (fun q z H locs h hP hD hS => ?_)
      have hP : va_P G vwCl (mo_W cy g a b0 t vn vf vs vp vq vd vo u.1 u.2.1 u.2.2.1 u.2.2.2.1 u.2.2.2.2.1 u.2.2.2.2.2.1 u.2.2.2.2.2.2 tm tx hc hh ss sv ++ md_W cy d z.1 z.2.1 z.2.2.1 z.2.2.2 mv mt mm) H := by simpa only [List.append_nil] using hP
      have hD : va_D (fun q : Nat => s.heap.size ≤ q) (mo_W cy g a b0 t vn vf vs vp vq vd vo u.1 u.2.1 u.2.2.1 u.2.2.2.1 u.2.2.2.2.1 u.2.2.2.2.2.1 u.2.2.2.2.2.2 tm tx hc hh ss sv ++ md_W cy d z.1 z.2.1 z.2.2.1 z.2.2.2 mv mt mm) := by simpa only [List.append_nil] using hD
      refine lv_icmp_eq (tgt := 810) hx hb dL_law_769 (by decide) (fun _ => ?_) (fun q => absurd h.1 q)
      exact J _ _ _ _ _ _ _ _ _ _ _ _ _ _ _ _ _ _ _ _ _ _ _ _ _ _ _ h.2 H locs ls hP hD hS hl
    rcases Classical.em (x = 26) with e_26 | e_26
    · refine lv_tableIn (tgt := 774) hx hb dL_law_32 (by rw [e_26]; decide) (by rw [e_26]; decide) (by rw [e_26]; rfl) (by decide) ?_
      have h := hop.2.2.2.2.2.2.2.2.2.2.2.2.2.2.2.2.2.2.2.2.2.2.2.2.2.2.1 vn vf vs vp vq vd vo un uf us up uq ud uo tm tx hc hh ss sv mn mf mk mg mv mt mm s1 hI
      refine lv_aload_n hx hb dL_law_774 rfl (lv_at hl 1 rfl) ?_
      refine lv_aload_n hx hb dL_law_775 rfl (lv_at hl 0 rfl) ?_
      refine lv_iload_n hx hb dL_law_776 rfl (lv_at hl 3 rfl) ?_
      refine lv_iconst (v := 1) hx hb dL_law_777 (by decide) ?_
      refine lv_iadd hx hb dL_law_778 ?_
      refine va_sld hx hb hX hbl hbA hS g_1 dL_law_779 ?_
      rw [hs1]
      have hP : va_P G vwCl ([] ++ (mo_W cy g a b0 t vn vf vs vp vq vd vo un uf us up uq ud uo tm tx hc hh ss sv ++ md_W cy d mn mf mk mg mv mt mm)) H := hP
      have hD : va_D (fun q : Nat => s.heap.size ≤ q) ([] ++ (mo_W cy g a b0 t vn vf vs vp vq vd vo un uf us up uq ud uo tm tx hc hh ss sv ++ md_W cy d mn mf mk mg mv mt mm)) := hD
      refine kc_Vi (L := []) (w0 := mo_W cy g a b0 t vn vf vs vp vq vd vo un uf us up uq ud uo tm tx hc hh ss sv) (R' := md_W cy d mn mf mk mg mv mt mm) (As := [.int s1]) (rest := []) S hE (ctX6_closest l G cy g a b0 t vn vf vs vp vq vd vo un uf us up uq ud uo tm tx hc hh ss sv s1 _ h) q_33_12 q_33_13 q_33_14 q_1_2 q_33_15 rfl 0 rfl rfl ydX6_closest ⟨⟨rfl, rfl⟩, ⟨Nat.le_of_ble_eq_true rfl, Nat.le_of_ble_eq_true rfl⟩⟩ ⟨Nat.le_refl _, Nat.le_refl _⟩ hP hD hS rfl hl.1 rfl (Nat.le_of_ble_eq_true rfl) dL_law_780 (fun r u H locs h hP hD hS => ?_)
      refine lv_aload_n hx hb dL_law_783 rfl (lv_at hl 2 rfl) ?_
      refine lv_aload_n hx hb dL_law_784 rfl (lv_at hl 0 rfl) ?_
      refine lv_iload_n hx hb dL_law_785 rfl (lv_at hl 3 rfl) ?_
      refine lv_iconst (v := 1) hx hb dL_law_786 (by decide) ?_
      refine lv_iadd hx hb dL_law_787 ?_
      refine va_sld hx hb hX hbl hbA hS g_1 dL_law_788 ?_
      rw [hs1]
      have hP : va_P G vwCl (mo_W cy g a b0 t vn vf vs vp vq vd vo un uf us up uq ud uo tm tx hc hh ss sv ++ (md_W cy d mn mf mk mg mv mt mm ++ [])) H := by simpa only [List.append_nil, List.nil_append] using hP
      have hD : va_D (fun q : Nat => s.heap.size ≤ q) (mo_W cy g a b0 t vn vf vs vp vq vd vo un uf us up uq ud uo tm tx hc hh ss sv ++ (md_W cy d mn mf mk mg mv mt mm ++ [])) := by simpa only [List.append_nil, List.nil_append] using hD
      refine kc_Vi (L := mo_W cy g a b0 t vn vf vs vp vq vd vo un uf us up uq ud uo tm tx hc hh ss sv) (w0 := md_W cy d mn mf mk mg mv mt mm) (R' := []) (As := [.int s1]) (rest := [.int r]) S hE (ctX7_closest l G cy d mn mf mk mg mv mt mm s1 _ h) q_33_20 q_33_21 q_33_22 q_1_5 q_33_23 rfl 0 rfl rfl ydX7_closest ⟨⟨rfl, rfl⟩, ⟨Nat.le_of_ble_eq_true rfl, Nat.le_of_ble_eq_true rfl⟩⟩ ⟨Nat.le_refl _, Nat.le_refl _⟩ hP hD hS rfl hl.1 rfl (Nat.le_of_ble_eq_true rfl) dL_law_789 (fun q z H locs h hP hD hS => ?_)
      have hP : va_P G vwCl (mo_W cy g a b0 t vn vf vs vp vq vd vo un uf us up uq ud uo tm tx hc hh ss sv ++ md_W cy d mn mf mk mg mv mt mm) H := by simpa only [List.append_nil] using hP
      have hD : va_D (fun q : Nat => s.heap.size ≤ q) (mo_W cy g a b0 t vn vf vs vp vq vd vo un uf us up uq ud uo tm tx hc hh ss sv ++ md_W cy d mn mf mk mg mv mt mm) := by simpa only [List.append_nil] using hD
      refine lv_icmp_eq (tgt := 810) hx hb dL_law_792 (by decide) (fun _ => ?_) (fun q => absurd h.1 q)
      exact J _ _ _ _ _ _ _ _ _ _ _ _ _ _ _ _ _ _ _ _ _ _ _ _ _ _ _ h.2 H locs ls hP hD hS hl
    rcases Classical.em (x = 27) with e_27 | e_27
    · refine lv_tableIn (tgt := 797) hx hb dL_law_32 (by rw [e_27]; decide) (by rw [e_27]; decide) (by rw [e_27]; rfl) (by decide) ?_
      have h := hop.2.2.2.2.2.2.2.2.2.2.2.2.2.2.2.2.2.2.2.2.2.2.2.2.2.2.2 vn vf vs vp vq vd vo un uf us up uq ud uo tm tx hc hh ss sv mn mf mk mg mv mt mm  hI
      refine lv_aload_n hx hb dL_law_797 rfl (lv_at hl 1 rfl) ?_
      have hP : va_P G vwCl ([] ++ (mo_W cy g a b0 t vn vf vs vp vq vd vo un uf us up uq ud uo tm tx hc hh ss sv ++ md_W cy d mn mf mk mg mv mt mm)) H := hP
      have hD : va_D (fun q : Nat => s.heap.size ≤ q) ([] ++ (mo_W cy g a b0 t vn vf vs vp vq vd vo un uf us up uq ud uo tm tx hc hh ss sv ++ md_W cy d mn mf mk mg mv mt mm)) := hD
      refine kc_Vi (L := []) (w0 := mo_W cy g a b0 t vn vf vs vp vq vd vo un uf us up uq ud uo tm tx hc hh ss sv) (R' := md_W cy d mn mf mk mg mv mt mm) (As := []) (rest := []) S hE (ctX6_safeSpeed l G cy g a b0 t vn vf vs vp vq vd vo un uf us up uq ud uo tm tx hc hh ss sv  _ h) q_34_0 q_34_1 q_34_2 q_1_2 q_34_3 rfl 0 rfl rfl ydX6_safeSpeed ⟨⟨rfl, rfl⟩, ⟨Nat.le_of_ble_eq_true rfl, Nat.le_of_ble_eq_true rfl⟩⟩ ⟨Nat.le_refl _, Nat.le_refl _⟩ hP hD hS rfl hl.1 rfl (Nat.le_of_ble_eq_true rfl) dL_law_798 (fun r u H locs h hP hD hS => ?_)
      refine lv_aload_n hx hb dL_law_801 rfl (lv_at hl 2 rfl) ?_
      have hP : va_P G vwCl (mo_W cy g a b0 t vn vf vs vp vq vd vo un uf us up uq ud uo tm tx hc hh ss sv ++ (md_W cy d mn mf mk mg mv mt mm ++ [])) H := by simpa only [List.append_nil, List.nil_append] using hP
      have hD : va_D (fun q : Nat => s.heap.size ≤ q) (mo_W cy g a b0 t vn vf vs vp vq vd vo un uf us up uq ud uo tm tx hc hh ss sv ++ (md_W cy d mn mf mk mg mv mt mm ++ [])) := by simpa only [List.append_nil, List.nil_append] using hD
      refine kc_Vi (L := mo_W cy g a b0 t vn vf vs vp vq vd vo un uf us up uq ud uo tm tx hc hh ss sv) (w0 := md_W cy d mn mf mk mg mv mt mm) (R' := []) (As := []) (rest := [.int r]) S hE (ctX7_safeSpeed l G cy d mn mf mk mg mv mt mm  _ h) q_34_6 q_34_7 q_34_8 q_1_5 q_34_9 rfl 0 rfl rfl ydX7_safeSpeed ⟨⟨rfl, rfl⟩, ⟨Nat.le_of_ble_eq_true rfl, Nat.le_of_ble_eq_true rfl⟩⟩ ⟨Nat.le_refl _, Nat.le_refl _⟩ hP hD hS rfl hl.1 rfl (Nat.le_of_ble_eq_true rfl) dL_law_802 (fun q z H locs h hP hD hS => ?_)
      have hP : va_P G vwCl (mo_W cy g a b0 t vn vf vs vp vq vd vo un uf us up uq ud uo tm tx hc hh ss sv ++ md_W cy d mn mf mk mg mv mt mm) H := by simpa only [List.append_nil] using hP
      have hD : va_D (fun q : Nat => s.heap.size ≤ q) (mo_W cy g a b0 t vn vf vs vp vq vd vo un uf us up uq ud uo tm tx hc hh ss sv ++ md_W cy d mn mf mk mg mv mt mm) := by simpa only [List.append_nil] using hD
      refine lv_icmp_eq (tgt := 810) hx hb dL_law_805 (by decide) (fun _ => ?_) (fun q => absurd h.1 q)
      exact J _ _ _ _ _ _ _ _ _ _ _ _ _ _ _ _ _ _ _ _ _ _ _ _ _ _ _ h.2 H locs ls hP hD hS hl
    have n_0 := lv_neT e_0 (a := 0) (by decide)
    have n_1 := lv_neT e_1 (a := 1) (by decide)
    have n_2 := lv_neT e_2 (a := 2) (by decide)
    have n_3 := lv_neT e_3 (a := 3) (by decide)
    have n_4 := lv_neT e_4 (a := 4) (by decide)
    have n_5 := lv_neT e_5 (a := 5) (by decide)
    have n_6 := lv_neT e_6 (a := 6) (by decide)
    have n_7 := lv_neT e_7 (a := 7) (by decide)
    have n_8 := lv_neT e_8 (a := 8) (by decide)
    have n_9 := lv_neT e_9 (a := 9) (by decide)
    have n_10 := lv_neT e_10 (a := 10) (by decide)
    have n_11 := lv_neT e_11 (a := 11) (by decide)
    have n_12 := lv_neT e_12 (a := 12) (by decide)
    have n_13 := lv_neT e_13 (a := 13) (by decide)
    have n_14 := lv_neT e_14 (a := 14) (by decide)
    have n_15 := lv_neT e_15 (a := 15) (by decide)
    have n_16 := lv_neT e_16 (a := 16) (by decide)
    have n_17 := lv_neT e_17 (a := 17) (by decide)
    have n_18 := lv_neT e_18 (a := 18) (by decide)
    have n_19 := lv_neT e_19 (a := 19) (by decide)
    have n_20 := lv_neT e_20 (a := 20) (by decide)
    have n_21 := lv_neT e_21 (a := 21) (by decide)
    have n_22 := lv_neT e_22 (a := 22) (by decide)
    have n_23 := lv_neT e_23 (a := 23) (by decide)
    have n_24 := lv_neT e_24 (a := 24) (by decide)
    have n_25 := lv_neT e_25 (a := 25) (by decide)
    have n_26 := lv_neT e_26 (a := 26) (by decide)
    have n_27 := lv_neT e_27 (a := 27) (by decide)
    refine lv_tableOut (tgt := 810) hx hb dL_law_32 (by omega) (by decide) ?_
    exact J vn vf vs vp vq vd vo un uf us up uq ud uo tm tx hc hh ss sv mn mf mk mg mv mt mm hI H locs ls hP hD hS hl
set_option maxRecDepth 100000 in
set_option maxHeartbeats 8000000 in
theorem law_start {LI : LIT} (hop : op_all LI) (hin0 : op_ini LI) {p : Program} {e : Env} {s : State} {m : MethodId} {below : List Frame} {meth : Method} {c : Code} (l : Launch) {b L : Nat} {xs : Nat → Int32} (hL : L ≤ 2560) (C0 : lw_At p s m meth c b L xs) : W p l e room_1 s m #[Value.ref b] below meth c s.heap [] 0 0 (lw_Z below #[Value.ref b] s) (entryFrame m ([Value.ref b] : List Value).toArray 4) := by
  obtain ⟨hx, hb, hr, hml, hown, hts0, hX, hbl, hlocks, hgv⟩ := id C0
  have hts : ∀ w ∈ wsL_law, w.before #[Value.ref b] s = true := fun w h => hts0 w (wsL_law_in w h)
  obtain ⟨G, cy, hE⟩ := law_env hts0
  obtain ⟨hZ, hEx⟩ := law_tabs hts0 hgv
  have hA : ∀ q : Nat, s.heap.size ≤ q → (fun q : Nat => s.heap.size ≤ q) q := fun _ h => h
  have S : CallFix p m c cL_law 4 s #[Value.ref b] wsL_law RL := ⟨hx, hb, hml, hown, hts⟩
  have hS : va_S (fun q : Nat => s.heap.size ≤ q) s.heap s.heap [] := va_S.rf
  have hP : va_P G vwCl [] s.heap := fun k q h => by simp at h
  have hD : va_D (fun q : Nat => s.heap.size ≤ q) [] := ⟨fun i j p q h => by simp at h, fun k q h => by simp at h⟩
  have hl := lv_entry ([.ref b]) (n := 4) (Nat.le_of_ble_eq_true rfl)
  rw [lg_entry_eq]
  generalize (lg_sl ([.ref b]) ++ List.replicate (4 - (lg_sl ([.ref b])).length) Slot.unset).toArray = ls at hl ⊢
  have hl : lv_has ls 4 [(0, .ref b)] := hl
  refine kw (ci := 6) (fs := [.null, .null, .null, .null, .null, .null]) S hE inlX6 tyX6_ok q_1_0 q_1_1 q_1_2 hP hD hS hA rfl (fun j hj => by rcases (show j = 0 ∨ j = 1 ∨ j = 2 ∨ j = 3 ∨ j = 4 ∨ j = 5 by omega) with rfl | rfl | rfl | rfl | rfl | rfl <;> rfl) (Nat.le_of_ble_eq_true rfl) (Nat.le_of_ble_eq_true rfl) dL_law_0 (fun q0 H hP hD hS => ?_)
  refine lv_dup hx hb dL_law_3 rfl ?_
  refine kc_I (L := []) (w0 := [(q0, .inr (6, [.null, .null, .null, .null, .null, .null]))]) (R' := []) (Ex := xSZ) S hE xSZ_ok (ctX6_init l G cy q0 H.size) q_1_6 q_1_7 q_1_2 q_1_8 rfl ydX6_init ⟨⟨rfl, rfl⟩, ⟨Nat.le_of_ble_eq_true rfl, Nat.le_of_ble_eq_true rfl⟩⟩ ⟨Nat.le_of_ble_eq_true rfl, Nat.le_of_ble_eq_true rfl⟩ hP hD hS hA (xSZ_at hZ hS (va_A_sub (L := []) (w0 := [(q0, .inr (6, [.null, .null, .null, .null, .null, .null]))]) (R' := []) hD hS hA)) hl.1 (Nat.le_of_ble_eq_true rfl) dL_law_4 (fun u H locs hu hP hD hS => ?_)
  have hP : va_P G vwCl (mo_W cy u.1 u.2.1 u.2.2.1 u.2.2.2.1 in_n in_f in_s zi zi zi zi in_n in_f in_s zi zi zi zi zi zi zi (fun i => (u.2.2.2.2.1 i, ini)) (fun i => (u.2.2.2.2.2 i, ini)) zi) H := by simpa only [List.append_nil, List.nil_append] using hP
  have hD : va_D (fun q : Nat => s.heap.size ≤ q) (mo_W cy u.1 u.2.1 u.2.2.1 u.2.2.2.1 in_n in_f in_s zi zi zi zi in_n in_f in_s zi zi zi zi zi zi zi (fun i => (u.2.2.2.2.1 i, ini)) (fun i => (u.2.2.2.2.2 i, ini)) zi) := by simpa only [List.append_nil, List.nil_append] using hD
  refine lv_astore_n (lv' := [(1, .ref q0), (0, .ref b)]) hx hb dL_law_7 rfl hl (by decide) rfl (fun ls hl => ?_)
  refine kw (ci := 7) (fs := [.null, .null, .null, .null, .null, .int 0, .null, .int 0, .int 0, .int 0, .int 0]) S hE inlX7 tyX7_ok q_1_3 q_1_4 q_1_5 hP hD hS hA rfl (fun j hj => by rcases (show j = 0 ∨ j = 1 ∨ j = 2 ∨ j = 3 ∨ j = 4 ∨ j = 5 ∨ j = 6 ∨ j = 7 ∨ j = 8 ∨ j = 9 ∨ j = 10 by omega) with rfl | rfl | rfl | rfl | rfl | rfl | rfl | rfl | rfl | rfl | rfl <;> rfl) (Nat.le_of_ble_eq_true rfl) (Nat.le_of_ble_eq_true rfl) dL_law_8 (fun q1 H hP hD hS => ?_)
  refine lv_dup hx hb dL_law_11 rfl ?_
  have hP : va_P G vwCl (mo_W cy u.1 u.2.1 u.2.2.1 u.2.2.2.1 in_n in_f in_s zi zi zi zi in_n in_f in_s zi zi zi zi zi zi zi (fun i => (u.2.2.2.2.1 i, ini)) (fun i => (u.2.2.2.2.2 i, ini)) zi ++ ([(q1, .inr (7, [.null, .null, .null, .null, .null, .int 0, .null, .int 0, .int 0, .int 0, .int 0]))] ++ [])) H := by simpa only [List.append_nil] using hP
  have hD : va_D (fun q : Nat => s.heap.size ≤ q) (mo_W cy u.1 u.2.1 u.2.2.1 u.2.2.2.1 in_n in_f in_s zi zi zi zi in_n in_f in_s zi zi zi zi zi zi zi (fun i => (u.2.2.2.2.1 i, ini)) (fun i => (u.2.2.2.2.2 i, ini)) zi ++ ([(q1, .inr (7, [.null, .null, .null, .null, .null, .int 0, .null, .int 0, .int 0, .int 0, .int 0]))] ++ [])) := by simpa only [List.append_nil] using hD
  refine kc_I (L := mo_W cy u.1 u.2.1 u.2.2.1 u.2.2.2.1 in_n in_f in_s zi zi zi zi in_n in_f in_s zi zi zi zi zi zi zi (fun i => (u.2.2.2.2.1 i, ini)) (fun i => (u.2.2.2.2.2 i, ini)) zi) (w0 := [(q1, .inr (7, [.null, .null, .null, .null, .null, .int 0, .null, .int 0, .int 0, .int 0, .int 0]))]) (R' := []) (Ex := xno) S hE xno_ok (ctX7_init l G cy q1 H.size) q_4_9 q_4_10 q_1_5 q_4_11 rfl ydX7_init ⟨⟨rfl, rfl⟩, ⟨Nat.le_of_ble_eq_true rfl, Nat.le_of_ble_eq_true rfl⟩⟩ ⟨Nat.le_of_ble_eq_true rfl, Nat.le_of_ble_eq_true rfl⟩ hP hD hS hA (fun _ _ _ => trivial) hl.1 (Nat.le_of_ble_eq_true rfl) dL_law_12 (fun v H locs hv hP hD hS => ?_)
  have hP : va_P G vwCl (mo_W cy u.1 u.2.1 u.2.2.1 u.2.2.2.1 in_n in_f in_s zi zi zi zi in_n in_f in_s zi zi zi zi zi zi zi (fun i => (u.2.2.2.2.1 i, ini)) (fun i => (u.2.2.2.2.2 i, ini)) zi ++ md_W cy v md_n in_f zi zf zi zi zi) H := by simpa only [List.append_nil] using hP
  have hD : va_D (fun q : Nat => s.heap.size ≤ q) (mo_W cy u.1 u.2.1 u.2.2.1 u.2.2.2.1 in_n in_f in_s zi zi zi zi in_n in_f in_s zi zi zi zi zi zi zi (fun i => (u.2.2.2.2.1 i, ini)) (fun i => (u.2.2.2.2.2 i, ini)) zi ++ md_W cy v md_n in_f zi zf zi zi zi) := by simpa only [List.append_nil] using hD
  refine W.widen (k := 600000) (n := 7302250) (Nat.le_of_ble_eq_true rfl) (Nat.le_of_ble_eq_true rfl) ?_
  refine lv_astore_n (lv' := [(2, .ref q1), (1, .ref q0), (0, .ref b)]) hx hb dL_law_15 rfl hl (by decide) rfl (fun ls hl => ?_)
  refine lv_iconst (v := 0) hx hb dL_law_16 (by decide) ?_
  refine lv_istore_n (lv' := [(3, .int 0), (2, .ref q1), (1, .ref q0), (0, .ref b)]) hx hb dL_law_17 rfl hl (by decide) rfl (fun ls hl => ?_)
  rw [← hu, ← hv] at hl
  exact law_loop hop hL C0 hE hEx (L + 5) 0 (Nat.zero_le _) (by omega) u.1 u.2.1 u.2.2.1 u.2.2.2.1 v _ _ _ _ _ _ _ _ _ _ _ _ _ _ _ _ _ _ _ _ _ _ _ _ _ _ _ (hin0 _ _) H locs ls hP hD hS (lv_sub hl [3, 2, 1, 0] rfl)
