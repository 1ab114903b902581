/-- what may be copied: its truth values are such -/
def cpre (vn vo : Nat → Int32) : Prop := bz (vn 4) ∧ ∀ k, k < 4 → bz (vo k)
theorem nar_bz {x : Int32} (h : bz x) : vp_nar .boolean x = x := by rcases h with rfl | rfl <;> decide +kernel
theorem cf5_ok (vn vd vo vn2 vd2 vo2 : Nat → Int32) (K : ((Nat → Int32) × (Nat → Int32) × (Nat → Int32)) → Prop) (hb : ∀ k, k < 4 → bz (vo2 k)) (hK : ∀ vd' vo' : Nat → Int32, (∀ k, k < 4 → vd' k = vd2 k ∧ vo' k = vo2 k) → K ((upd vn 11 (vn2 11)), vd', vo')) : vX5_copyFrom vn vd vo vn2 vd2 vo2 K := by
  unfold vX5_copyFrom
  refine lp_ex (fun z => ∃ j, j ≤ 4 ∧ z.2.2 = nI j ∧ ∀ k, k < j → z.1 k = vd2 k ∧ z.2.1 k = vo2 k) (fun z => 4 - z.2.2.toNatClampNeg) _ ⟨0, by omega, rfl, fun k h => absurd h (by omega)⟩ ?_
  rintro B ⟨wd, wo, x⟩ ⟨j, hj, hx, hk⟩ hB
  dsimp only at hx hk hB
  subst hx
  have e4 : (4 : Int32) = nI 4 := rfl
  unfold vX5_copyFrom_10F vX5_copyFrom_10b
  dsimp only
  rw [e4]
  refine ⟨fun h => ?_, fun h => ?_⟩
  · have h4 : 4 ≤ j := (nI_leI (by decide) (by omega)).mp h
    exact hK _ _ (fun k hk4 => hk k (by omega))
  · have h4 : j < 4 := by
      rcases Nat.lt_or_ge j 4 with q | q
      · exact q
      · exact absurd ((nI_leI (by decide) (by omega)).mpr q) h
    have hi : vp_in (nI j) 4 := vp_in_nI h4 (by decide)
    have hc : Int32.toNatClampNeg (nI j) = j := nI_clamp (by omega)
    refine ⟨hi, hi, hi, hi, hB _ ⟨j + 1, by omega, ?_, ?_⟩ ?_⟩
    · exact nI_1 j
    · intro k hk1
      rw [hc, nar_bz (hb j h4)]
      by_cases e : k = j
      · subst e
        simp [upd]
      · simp only [upd, if_neg e]
        exact hk k (by omega)
    · dsimp only
      rw [show nI j + 1 = nI (j + 1) from nI_1 j, nI_clamp (by omega), hc]
      omega
theorem cf_ok (vn : Nat → Int32) (vf : Nat → UInt32) (vs : Nat → Int32) (vp : Nat → Int32) (vq : Nat → Int32) (vd : Nat → Int32) (vo : Nat → Int32) (vn2 : Nat → Int32) (vf2 : Nat → UInt32) (vs2 : Nat → Int32) (vp2 : Nat → Int32) (vq2 : Nat → Int32) (vd2 : Nat → Int32) (vo2 : Nat → Int32) (K : ((Nat → Int32) × (Nat → UInt32) × (Nat → Int32) × (Nat → Int32) × (Nat → Int32) × (Nat → Int32) × (Nat → Int32)) → Prop) (hb : cpre vn2 vo2) (hK : ∀ u, cf_eq vn2 vf2 vs2 vp2 vq2 vd2 vo2 u → K u) : vX4_copyFrom vn vf vs vp vq vd vo vn2 vf2 vs2 vp2 vq2 vd2 vo2 K := by
  unfold vX4_copyFrom vX2_copyFrom
  refine cf5_ok _ _ _ _ _ _ _ hb.2 (fun vd' vo' h => ?_)
  unfold vX3_copyFrom
  refine ⟨hb.1, hK _ ⟨?_, ?_, ?_, ?_, ?_, fun k hk => (h k hk).1, fun k hk => (h k hk).2⟩⟩
  · intro k hk
    have : k = 0 ∨ k = 1 ∨ k = 2 ∨ k = 3 ∨ k = 4 ∨ k = 5 ∨ k = 6 ∨ k = 7 ∨ k = 8 ∨ k = 9 ∨ k = 10 ∨ k = 11 := by omega
    rcases this with rfl | rfl | rfl | rfl | rfl | rfl | rfl | rfl | rfl | rfl | rfl | rfl <;> rfl
  · intro k hk
    have : k = 0 ∨ k = 1 ∨ k = 2 ∨ k = 3 ∨ k = 4 := by omega
    rcases this with rfl | rfl | rfl | rfl | rfl <;> rfl
  · intro k hk; exact pk_cpy_in (Nat.zero_le k) (by omega) |>.trans (by simp)
  · intro k hk; exact pk_cpy_in (Nat.zero_le k) (by omega) |>.trans (by simp)
  · intro k hk; exact pk_cpy_in (Nat.zero_le k) (by omega) |>.trans (by simp)
section KCP
variable {p : Program} {l : Launch} {e : Env} {R : Room} {s : State} {m : MethodId} {args : Array Value} {below : List Frame} {meth : Method} {c : Code} {H : Heap} {locs : List Loc} {cells slots : Nat} {Q : State → Prop}
variable {G : va_G} {cy : Nat → ClassId} {own : String} {nL : Nat} {cc : ByteArray} {rest : List Value} {pc : Nat} {ls : Array Slot} {ws ws' RR : va_W} {H0 : Heap} {A : Nat → Prop}
theorem kc_copy {a b : Nat → Nat} {vn : Nat → Int32} {vf : Nat → UInt32} {vs vp vq vd vo : Nat → Int32} {vn2 : Nat → Int32} {vf2 : Nat → UInt32} {vs2 vp2 vq2 vd2 vo2 : Nat → Int32} (S : CallFix p m c cc nL s args wsL_law own) (hE : EV G cy s) (hb : cpre vn2 vo2) {index : Nat} (g1 : Cond.methodLink own index yX4_copyFrom ∈ wsL_law)
    (hp : ws.Perm ((st_W cy a vn vf vs vp vq vd vo ++ st_W cy b vn2 vf2 vs2 vp2 vq2 vd2 vo2) ++ RR)) (hp2 : ((st_W cy a vn2 vf2 vs2 vp2 vq2 vd2 vo2 ++ st_W cy b vn2 vf2 vs2 vp2 vq2 vd2 vo2) ++ RR).Perm ws') (hP : va_P G vwCl ws H) (hD : va_D A ws) (hS : va_S A H0 H locs) (hR : 3 ≤ R.frames ∧ 82 ≤ R.locals) (hcs : cells ≤ R.cells ∧ slots ≤ R.slots) (hsz : ls.size = nL) (hw8 : (rest.map fun v => v.category).sum ≤ 8) (hdg : decode cc pc = .ok (.invokevirtual index, 3))
    (kk : ∀ (H1 : Heap) (locs1 : List Loc), va_P G vwCl ws' H1 → va_D A ws' → va_S A H0 H1 locs1 → W p l e R s m args below meth c H1 locs1 cells slots Q (F0 m (pc + 3) ls rest)) : W p l e R s m args below meth c H locs cells slots Q (F0 m pc ls (.ref (b 0) :: .ref (a 0) :: rest)) := by
  have hP1 := hP.perm hp
  have hD1 := hD.perm hp
  refine kc_Vv (L := []) (w0 := st_W cy a vn vf vs vp vq vd vo ++ st_W cy b vn2 vf2 vs2 vp2 vq2 vd2 vo2) (R' := RR) (As := [.ref (b 0)]) (rest := rest) S hE (ctX4_copyFrom l G cy a b vn vf vs vp vq vd vo vn2 vf2 vs2 vp2 vq2 vd2 vo2 (cf_eq vn2 vf2 vs2 vp2 vq2 vd2 vo2) (cf_ok vn vf vs vp vq vd vo vn2 vf2 vs2 vp2 vq2 vd2 vo2 _ hb (fun _ h => h))) g1 q_10_21 q_10_22 q_1_11 q_10_23 rfl 0 rfl rfl ydX4_copyFrom ⟨⟨rfl, rfl⟩, ⟨hR.1, hR.2⟩⟩ hcs hP1 hD1 hS rfl hsz rfl hw8 hdg (fun u H1 locs1 hu hP2 hD2 hS2 => ?_)
  have hs : sms ((st_W cy a u.1 u.2.1 u.2.2.1 u.2.2.2.1 u.2.2.2.2.1 u.2.2.2.2.2.1 u.2.2.2.2.2.2 ++ st_W cy b vn2 vf2 vs2 vp2 vq2 vd2 vo2) ++ RR) ((st_W cy a vn2 vf2 vs2 vp2 vq2 vd2 vo2 ++ st_W cy b vn2 vf2 vs2 vp2 vq2 vd2 vo2) ++ RR) := sms.app (sms.app (st_sm hu) (sms.rf _)) (sms.rf _)
  exact kk H1 locs1 ((va_P.sm hP2 hs).perm hp2) ((va_D.sm hD2 hs).perm hp2) hS2
end KCP
/-! the monitor's world -/
abbrev hr_W (cy : Nat → ClassId) (g : Nat → Nat) (hc : Nat → Int32) (rw : Nat → Option Nat) (hh : Nat → Sx) : va_W := (g 1, .inr (1, [.int (hc 0), .ref (g 2)])) :: (g 2, .inl (cy 4, 5, .inr (.inr (.inr (.inr rw))))) :: hb_W cy 5 hh
abbrev tl_W (cy : Nat → ClassId) (g : Nat → Nat) (ss : Nat → Sx) (sv : Nat → Int32) : va_W := (g 3, .inl (cy 4, 2, .inr (.inr (.inr (.inr (fun j => some ((ss j).1 0))))))) :: (g 4, .inl (cy 3, 2, .inl sv)) :: hb_W cy 2 ss
abbrev mp_W (cy : Nat → ClassId) (g a b t : Nat → Nat) (vn : Nat → Int32) (vf : Nat → UInt32) (vs : Nat → Int32) (vp : Nat → Int32) (vq : Nat → Int32) (vd : Nat → Int32) (vo : Nat → Int32) (un : Nat → Int32) (uf : Nat → UInt32) (us : Nat → Int32) (up : Nat → Int32) (uq : Nat → Int32) (ud : Nat → Int32) (uo : Nat → Int32) (tm tx : Nat → Int32) : va_W := (g 0, .inr (6, [.ref (a 0), .ref (b 0), .ref (g 1), .ref (g 3), .ref (g 4), .ref (t 0)])) :: (st_W cy b un uf us up uq ud uo ++ (st_W cy a vn vf vs vp vq vd vo ++ tx_W cy t tm tx))
abbrev mo_W (cy : Nat → ClassId) (g a b t : Nat → Nat) (vn : Nat → Int32) (vf : Nat → UInt32) (vs : Nat → Int32) (vp : Nat → Int32) (vq : Nat → Int32) (vd : Nat → Int32) (vo : Nat → Int32) (un : Nat → Int32) (uf : Nat → UInt32) (us : Nat → Int32) (up : Nat → Int32) (uq : Nat → Int32) (ud : Nat → Int32) (uo : Nat → Int32) (tm tx hc : Nat → Int32) (hh ss : Nat → Sx) (sv : Nat → Int32) : va_W := mp_W cy g a b t vn vf vs vp vq vd vo un uf us up uq ud uo tm tx ++ (hr_W cy g hc (fun j => some ((hh j).1 0)) hh ++ tl_W cy g ss sv)
abbrev Cx : Type := (Nat → Int32) × (Nat → UInt32) × (Nat → Int32) × (Nat → Int32) × (Nat → Int32) × (Nat → Int32) × (Nat → Int32)
def hset (hh : Nat → Sx) (c : Nat) (x : Cx) : Nat → Sx := fun i => if i = c then ((hh c).1, x) else hh i
def hck (hc : Nat → Int32) : Nat → Int32 := if hc 0 < 5 then upd hc 0 (hc 0 + 1) else upd (upd hc 0 4) 0 (4 + 1)
def hhk (hc : Nat → Int32) (hh : Nat → Sx) (x : Cx) : Nat → Sx := if hc 0 < 5 then hset hh (Int32.toNatClampNeg (hc 0)) x else hset (hrot hh) 4 x
def kpre (vn vo hc : Nat → Int32) : Prop := cpre vn vo ∧ (hc 0 < 5 → vp_in (hc 0) 5)
theorem hset_self (hh : Nat → Sx) (c : Nat) : hset hh c (hh c).2 = hh := by
  funext i
  unfold hset
  split
  · next q => rw [q]
  · rfl
theorem hset_1 (hh : Nat → Sx) (c : Nat) (x : Cx) (i : Nat) : (hset hh c x i).1 = (hh i).1 := by
  unfold hset
  split
  · next q => rw [q]
  · rfl
set_option maxRecDepth 100000 in
set_option maxHeartbeats 4000000 in
theorem ctX1_dropOldest (l : Launch) (G : va_G) (cy : Nat → ClassId) (g : Nat → Nat) (hc : Nat → Int32) (hh : Nat → Sx) : Met l yX1_dropOldest (ws_ yX1_dropOldest cX1_dropOldest 3 none) ({ frames := 0, cells := 0, slots := 0, locals := 0 } : Room) (CP G cy [.ref (g 1)] (hr_W cy g hc (fun j => some ((hh j).1 0)) hh)) (RV G (fun _ : Unit => True) (fun _ => hr_W cy g (upd hc 0 4) (fun j => some ((hrot hh j).1 0)) hh) (A1 (hr_W cy g hc (fun j => some ((hh j).1 0)) hh))) 0 0 (A1 (hr_W cy g hc (fun j => some ((hh j).1 0)) hh)) := by
  refine hd_go (Qf := fun A => RV G (fun _ : Unit => True) (fun _ => hr_W cy g (upd hc 0 4) (fun j => some ((hrot hh j).1 0)) hh) A) (by decide +kernel) (Nat.le_of_ble_eq_true rfl) ?_
  intro p e s m below meth c ls A hx hb hr hlocks S hE hP hD hS hl
  have hl : lv_has ls 3 [(0, .ref (g 1))] := hl
  refine lv_aload_n hx hb dX1_dropOldest_0 rfl (lv_at hl 0 rfl) ?_
  refine kg (v := .ref (g 2)) S hE hP 0 rfl rfl 1 (by decide) q_3_22 rfl rfl inlX1 dX1_dropOldest_1 ?_
  refine lv_iconst (v := 0) hx hb dX1_dropOldest_4 (by decide) ?_
  refine va_aldq hx hb hE.1 hP 1 4 rfl rfl (i := 0) (vi_0 (by decide)) dX1_dropOldest_5 ?_
  refine W.eq (g2 := F0 m 6 ls (.ref ((hh 0).1 0) :: [])) rfl ?_
  refine lv_astore_n (lv' := [(1, .ref ((hh 0).1 0)), (0, .ref (g 1))]) hx hb dX1_dropOldest_6 rfl hl (by decide) rfl (fun ls hl => ?_)
  refine lv_iconst (v := 1) hx hb dX1_dropOldest_7 (by decide) ?_
  refine lv_istore_n (lv' := [(2, .int 1), (1, .ref ((hh 0).1 0)), (0, .ref (g 1))]) hx hb dX1_dropOldest_8 rfl hl (by decide) rfl (fun ls hl => ?_)
  refine lv_iload_n hx hb dX1_dropOldest_9 rfl (lv_at hl 0 rfl) ?_
  refine lv_iconst (v := 5) hx hb dX1_dropOldest_10 (by decide) ?_
  refine lv_icmp_ge (tgt := 34) hx hb dX1_dropOldest_11 (by decide) (fun c_9 => absurd c_9 (by decide +kernel)) (fun c_9 => ?_)
  refine lv_aload_n hx hb dX1_dropOldest_14 rfl (lv_at hl 2 rfl) ?_
  refine kg (v := .ref (g 2)) S hE hP 0 rfl rfl 1 (by decide) q_3_22 rfl rfl inlX1 dX1_dropOldest_15 ?_
  refine lv_iload_n hx hb dX1_dropOldest_18 rfl (lv_at hl 0 rfl) ?_
  refine lv_iconst (v := 1) hx hb dX1_dropOldest_19 (by decide) ?_
  refine lv_isub hx hb dX1_dropOldest_20 ?_
  refine W.eq (g2 := F0 m 21 ls (.int 0 :: [.ref (g 2)])) rfl ?_
  refine lv_aload_n hx hb dX1_dropOldest_21 rfl (lv_at hl 2 rfl) ?_
  refine kg (v := .ref (g 2)) S hE hP 0 rfl rfl 1 (by decide) q_3_22 rfl rfl inlX1 dX1_dropOldest_22 ?_
  refine lv_iload_n hx hb dX1_dropOldest_25 rfl (lv_at hl 0 rfl) ?_
  refine va_aldq hx hb hE.1 hP 1 4 rfl rfl (i := 1) (vi_1 (by decide)) dX1_dropOldest_26 ?_
  refine W.eq (g2 := F0 m 27 ls (.ref ((hh 1).1 0) :: [.int 0, .ref (g 2)])) rfl ?_
  refine va_astq hx hb hE.1 hP hD hS 1 4 11 4 rfl rfl rfl rfl (i := 0) (vi_0 (by decide)) dX1_dropOldest_27 (fun H locs hP hD hS => ?_)
  have hP : va_P G vwCl (hr_W cy g hc (va_up (fun j => some ((hh j).1 0)) 0 (some ((hh 1).1 0))) hh) H := hP
  have hD : va_D A (hr_W cy g hc (va_up (fun j => some ((hh j).1 0)) 0 (some ((hh 1).1 0))) hh) := hD
  refine lv_iinc (v := 2) (lv' := [(2, .int 2), (1, .ref ((hh 0).1 0)), (0, .ref (g 1))]) hx hb dX1_dropOldest_28 hl (k := 0) rfl (by decide +kernel) (by decide) rfl (fun ls hl => ?_)
  refine lv_goto (tgt := 9) hx hb dX1_dropOldest_31 (by decide) ?_
  refine lv_iload_n hx hb dX1_dropOldest_9 rfl (lv_at hl 0 rfl) ?_
  refine lv_iconst (v := 5) hx hb dX1_dropOldest_10 (by decide) ?_
  refine lv_icmp_ge (tgt := 34) hx hb dX1_dropOldest_11 (by decide) (fun c_9 => absurd c_9 (by decide +kernel)) (fun c_9 => ?_)
  refine lv_aload_n hx hb dX1_dropOldest_14 rfl (lv_at hl 2 rfl) ?_
  refine kg (v := .ref (g 2)) S hE hP 0 rfl rfl 1 (by decide) q_3_22 rfl rfl inlX1 dX1_dropOldest_15 ?_
  refine lv_iload_n hx hb dX1_dropOldest_18 rfl (lv_at hl 0 rfl) ?_
  refine lv_iconst (v := 1) hx hb dX1_dropOldest_19 (by decide) ?_
  refine lv_isub hx hb dX1_dropOldest_20 ?_
  refine W.eq (g2 := F0 m 21 ls (.int 1 :: [.ref (g 2)])) rfl ?_
  refine lv_aload_n hx hb dX1_dropOldest_21 rfl (lv_at hl 2 rfl) ?_
  refine kg (v := .ref (g 2)) S hE hP 0 rfl rfl 1 (by decide) q_3_22 rfl rfl inlX1 dX1_dropOldest_22 ?_
  refine lv_iload_n hx hb dX1_dropOldest_25 rfl (lv_at hl 0 rfl) ?_
  refine va_aldq hx hb hE.1 hP 1 4 rfl rfl (i := 2) (vi_2 (by decide)) dX1_dropOldest_26 ?_
  refine W.eq (g2 := F0 m 27 ls (.ref ((hh 2).1 0) :: [.int 1, .ref (g 2)])) rfl ?_
  refine va_astq hx hb hE.1 hP hD hS 1 4 20 4 rfl rfl rfl rfl (i := 1) (vi_1 (by decide)) dX1_dropOldest_27 (fun H locs hP hD hS => ?_)
  have hP : va_P G vwCl (hr_W cy g hc (va_up (va_up (fun j => some ((hh j).1 0)) 0 (some ((hh 1).1 0))) 1 (some ((hh 2).1 0))) hh) H := hP
  have hD : va_D A (hr_W cy g hc (va_up (va_up (fun j => some ((hh j).1 0)) 0 (some ((hh 1).1 0))) 1 (some ((hh 2).1 0))) hh) := hD
  refine lv_iinc (v := 3) (lv' := [(2, .int 3), (1, .ref ((hh 0).1 0)), (0, .ref (g 1))]) hx hb dX1_dropOldest_28 hl (k := 0) rfl (by decide +kernel) (by decide) rfl (fun ls hl => ?_)
  refine lv_goto (tgt := 9) hx hb dX1_dropOldest_31 (by decide) ?_
  refine lv_iload_n hx hb dX1_dropOldest_9 rfl (lv_at hl 0 rfl) ?_
  refine lv_iconst (v := 5) hx hb dX1_dropOldest_10 (by decide) ?_
  refine lv_icmp_ge (tgt := 34) hx hb dX1_dropOldest_11 (by decide) (fun c_9 => absurd c_9 (by decide +kernel)) (fun c_9 => ?_)
  refine lv_aload_n hx hb dX1_dropOldest_14 rfl (lv_at hl 2 rfl) ?_
  refine kg (v := .ref (g 2)) S hE hP 0 rfl rfl 1 (by decide) q_3_22 rfl rfl inlX1 dX1_dropOldest_15 ?_
  refine lv_iload_n hx hb dX1_dropOldest_18 rfl (lv_at hl 0 rfl) ?_
  refine lv_iconst (v := 1) hx hb dX1_dropOldest_19 (by decide) ?_
  refine lv_isub hx hb dX1_dropOldest_20 ?_
  refine W.eq (g2 := F0 m 21 ls (.int 2 :: [.ref (g 2)])) rfl ?_
  refine lv_aload_n hx hb dX1_dropOldest_21 rfl (lv_at hl 2 rfl) ?_
  refine kg (v := .ref (g 2)) S hE hP 0 rfl rfl 1 (by decide) q_3_22 rfl rfl inlX1 dX1_dropOldest_22 ?_
  refine lv_iload_n hx hb dX1_dropOldest_25 rfl (lv_at hl 0 rfl) ?_
  refine va_aldq hx hb hE.1 hP 1 4 rfl rfl (i := 3) (vi_3 (by decide)) dX1_dropOldest_26 ?_
  refine W.eq (g2 := F0 m 27 ls (.ref ((hh 3).1 0) :: [.int 2, .ref (g 2)])) rfl ?_
  refine va_astq hx hb hE.1 hP hD hS 1 4 29 4 rfl rfl rfl rfl (i := 2) (vi_2 (by decide)) dX1_dropOldest_27 (fun H locs hP hD hS => ?_)
  have hP : va_P G vwCl (hr_W cy g hc (va_up (va_up (va_up (fun j => some ((hh j).1 0)) 0 (some ((hh 1).1 0))) 1 (some ((hh 2).1 0))) 2 (some ((hh 3).1 0))) hh) H := hP
  have hD : va_D A (hr_W cy g hc (va_up (va_up (va_up (fun j => some ((hh j).1 0)) 0 (some ((hh 1).1 0))) 1 (some ((hh 2).1 0))) 2 (some ((hh 3).1 0))) hh) := hD
  refine lv_iinc (v := 4) (lv' := [(2, .int 4), (1, .ref ((hh 0).1 0)), (0, .ref (g 1))]) hx hb dX1_dropOldest_28 hl (k := 0) rfl (by decide +kernel) (by decide) rfl (fun ls hl => ?_)
  refine lv_goto (tgt := 9) hx hb dX1_dropOldest_31 (by decide) ?_
  refine lv_iload_n hx hb dX1_dropOldest_9 rfl (lv_at hl 0 rfl) ?_
  refine lv_iconst (v := 5) hx hb dX1_dropOldest_10 (by decide) ?_
  refine lv_icmp_ge (tgt := 34) hx hb dX1_dropOldest_11 (by decide) (fun c_9 => absurd c_9 (by decide +kernel)) (fun c_9 => ?_)
  refine lv_aload_n hx hb dX1_dropOldest_14 rfl (lv_at hl 2 rfl) ?_
  refine kg (v := .ref (g 2)) S hE hP 0 rfl rfl 1 (by decide) q_3_22 rfl rfl inlX1 dX1_dropOldest_15 ?_
  refine lv_iload_n hx hb dX1_dropOldest_18 rfl (lv_at hl 0 rfl) ?_
  refine lv_iconst (v := 1) hx hb dX1_dropOldest_19 (by decide) ?_
  refine lv_isub hx hb dX1_dropOldest_20 ?_
  refine W.eq (g2 := F0 m 21 ls (.int 3 :: [.ref (g 2)])) rfl ?_
  refine lv_aload_n hx hb dX1_dropOldest_21 rfl (lv_at hl 2 rfl) ?_
  refine kg (v := .ref (g 2)) S hE hP 0 rfl rfl 1 (by decide) q_3_22 rfl rfl inlX1 dX1_dropOldest_22 ?_
  refine lv_iload_n hx hb dX1_dropOldest_25 rfl (lv_at hl 0 rfl) ?_
  refine va_aldq hx hb hE.1 hP 1 4 rfl rfl (i := 4) (vi_4 (by decide)) dX1_dropOldest_26 ?_
  refine W.eq (g2 := F0 m 27 ls (.ref ((hh 4).1 0) :: [.int 3, .ref (g 2)])) rfl ?_
  refine va_astq hx hb hE.1 hP hD hS 1 4 38 4 rfl rfl rfl rfl (i := 3) (vi_3 (by decide)) dX1_dropOldest_27 (fun H locs hP hD hS => ?_)
  have hP : va_P G vwCl (hr_W cy g hc (va_up (va_up (va_up (va_up (fun j => some ((hh j).1 0)) 0 (some ((hh 1).1 0))) 1 (some ((hh 2).1 0))) 2 (some ((hh 3).1 0))) 3 (some ((hh 4).1 0))) hh) H := hP
  have hD : va_D A (hr_W cy g hc (va_up (va_up (va_up (va_up (fun j => some ((hh j).1 0)) 0 (some ((hh 1).1 0))) 1 (some ((hh 2).1 0))) 2 (some ((hh 3).1 0))) 3 (some ((hh 4).1 0))) hh) := hD
  refine lv_iinc (v := 5) (lv' := [(2, .int 5), (1, .ref ((hh 0).1 0)), (0, .ref (g 1))]) hx hb dX1_dropOldest_28 hl (k := 0) rfl (by decide +kernel) (by decide) rfl (fun ls hl => ?_)
  refine lv_goto (tgt := 9) hx hb dX1_dropOldest_31 (by decide) ?_
  refine lv_iload_n hx hb dX1_dropOldest_9 rfl (lv_at hl 0 rfl) ?_
  refine lv_iconst (v := 5) hx hb dX1_dropOldest_10 (by decide) ?_
  refine lv_icmp_ge (tgt := 34) hx hb dX1_dropOldest_11 (by decide) (fun c_9 => ?_) (fun c_9 => absurd (by decide +kernel) c_9)
  refine lv_aload_n hx hb dX1_dropOldest_34 rfl (lv_at hl 2 rfl) ?_
  refine kg (v := .ref (g 2)) S hE hP 0 rfl rfl 1 (by decide) q_3_22 rfl rfl inlX1 dX1_dropOldest_35 ?_
  refine lv_iconst (v := 4) hx hb dX1_dropOldest_38 (by decide) ?_
  refine lv_aload_n hx hb dX1_dropOldest_39 rfl (lv_at hl 1 rfl) ?_
  refine va_astq hx hb hE.1 hP hD hS 1 4 2 4 rfl rfl rfl rfl (i := 4) (vi_4 (by decide)) dX1_dropOldest_40 (fun H locs hP hD hS => ?_)
  have hP : va_P G vwCl (hr_W cy g hc (va_up (va_up (va_up (va_up (va_up (fun j => some ((hh j).1 0)) 0 (some ((hh 1).1 0))) 1 (some ((hh 2).1 0))) 2 (some ((hh 3).1 0))) 3 (some ((hh 4).1 0))) 4 (some ((hh 0).1 0))) hh) H := hP
  have hD : va_D A (hr_W cy g hc (va_up (va_up (va_up (va_up (va_up (fun j => some ((hh j).1 0)) 0 (some ((hh 1).1 0))) 1 (some ((hh 2).1 0))) 2 (some ((hh 3).1 0))) 3 (some ((hh 4).1 0))) 4 (some ((hh 0).1 0))) hh) := hD
  refine lv_aload_n hx hb dX1_dropOldest_41 rfl (lv_at hl 2 rfl) ?_
  refine lv_iconst (v := 4) hx hb dX1_dropOldest_42 (by decide) ?_
  refine kp S hE hP hD hS 0 rfl rfl 0 (by decide) q_10_15 rfl rfl tyX1_ok nmX1 inlX1 rfl rfl (Nat.le_of_ble_eq_true rfl) dX1_dropOldest_43 (fun H locs hP hD hS => ?_)
  have hP : va_P G vwCl (hr_W cy g (upd hc 0 4) (va_up (va_up (va_up (va_up (va_up (fun j => some ((hh j).1 0)) 0 (some ((hh 1).1 0))) 1 (some ((hh 2).1 0))) 2 (some ((hh 3).1 0))) 3 (some ((hh 4).1 0))) 4 (some ((hh 0).1 0))) hh) H := hP
  have hD : va_D A (hr_W cy g (upd hc 0 4) (va_up (va_up (va_up (va_up (va_up (fun j => some ((hh j).1 0)) 0 (some ((hh 1).1 0))) 1 (some ((hh 2).1 0))) 2 (some ((hh 3).1 0))) 3 (some ((hh 4).1 0))) 4 (some ((hh 0).1 0))) hh) := hD
  have hs : sms (hr_W cy g (upd hc 0 4) (va_up (va_up (va_up (va_up (va_up (fun j => some ((hh j).1 0)) 0 (some ((hh 1).1 0))) 1 (some ((hh 2).1 0))) 2 (some ((hh 3).1 0))) 3 (some ((hh 4).1 0))) 4 (some ((hh 0).1 0))) hh) (hr_W cy g (upd hc 0 4) (fun j => some ((hrot hh j).1 0)) hh) := ⟨sm.rf _, sm.aq (fun j hj => ?_), sms.rf _⟩
  · have hP := hP.sm hs
    have hD := hD.sm hs
    exact W.vret hx hb hr (fun t ht hW => ⟨⟨(), rfl, trivial, ⟨hp_at ht hP, hD⟩⟩, hS.F ht⟩) hS.2.2 dX1_dropOldest_46
  · have : j = 0 ∨ j = 1 ∨ j = 2 ∨ j = 3 ∨ j = 4 := by omega
    rcases this with rfl | rfl | rfl | rfl | rfl <;> rfl
/-- the monitor's world with block c of the history taken out, and the present -/
theorem mo_perm {cy : Nat → ClassId} (g a b t : Nat → Nat) (vn : Nat → Int32) (vf : Nat → UInt32) (vs : Nat → Int32) (vp : Nat → Int32) (vq : Nat → Int32) (vd : Nat → Int32) (vo : Nat → Int32) (un : Nat → Int32) (uf : Nat → UInt32) (us : Nat → Int32) (up : Nat → Int32) (uq : Nat → Int32) (ud : Nat → Int32) (uo : Nat → Int32) (tm tx hc : Nat → Int32) (hh ss : Nat → Sx) (sv : Nat → Int32) (rw : Nat → Option Nat) {c : Nat} (hc5 : c < 5) (x : Cx) : (mp_W cy g a b t vn vf vs vp vq vd vo un uf us up uq ud uo tm tx ++ (hr_W cy g hc rw (hset hh c x) ++ tl_W cy g ss sv)).Perm ((sx_W cy ((hh c).1, x) ++ st_W cy a vn vf vs vp vq vd vo) ++ (((g 0, .inr (6, [.ref (a 0), .ref (b 0), .ref (g 1), .ref (g 3), .ref (g 4), .ref (t 0)])) :: st_W cy b un uf us up uq ud uo) ++ ((tx_W cy t tm tx ++ [(g 1, .inr (1, [.int (hc 0), .ref (g 2)])), (g 2, .inl (cy 4, 5, .inr (.inr (.inr (.inr rw)))))]) ++ (hb_L cy ((List.range 5).erase c) hh ++ tl_W cy g ss sv)))) :=
  pm1 (pre := (g 0, .inr (6, [.ref (a 0), .ref (b 0), .ref (g 1), .ref (g 3), .ref (g 4), .ref (t 0)])) :: st_W cy b un uf us up uq ud uo) (A := st_W cy a vn vf vs vp vq vd vo) (mid := tx_W cy t tm tx ++ [(g 1, .inr (1, [.int (hc 0), .ref (g 2)])), (g 2, .inl (cy 4, 5, .inr (.inr (.inr (.inr rw)))))]) (HB := hb_W cy 5 (hset hh c x)) (Z := tl_W cy g ss sv) (hb_split hc5 hh ((hh c).1, x))
theorem mo_perm2 {cy : Nat → ClassId} (g a b t : Nat → Nat) (vn : Nat → Int32) (vf : Nat → UInt32) (vs : Nat → Int32) (vp : Nat → Int32) (vq : Nat → Int32) (vd : Nat → Int32) (vo : Nat → Int32) (un : Nat → Int32) (uf : Nat → UInt32) (us : Nat → Int32) (up : Nat → Int32) (uq : Nat → Int32) (ud : Nat → Int32) (uo : Nat → Int32) (tm tx hc : Nat → Int32) (hh ss : Nat → Sx) (sv : Nat → Int32) (rw : Nat → Option Nat) {c : Nat} (hc5 : c < 5) : (mp_W cy g a b t vn vf vs vp vq vd vo un uf us up uq ud uo tm tx ++ (hr_W cy g hc rw hh ++ tl_W cy g ss sv)).Perm ((st_W cy a vn vf vs vp vq vd vo ++ sx_W cy (hh c)) ++ (((g 0, .inr (6, [.ref (a 0), .ref (b 0), .ref (g 1), .ref (g 3), .ref (g 4), .ref (t 0)])) :: st_W cy b un uf us up uq ud uo) ++ ((tx_W cy t tm tx ++ [(g 1, .inr (1, [.int (hc 0), .ref (g 2)])), (g 2, .inl (cy 4, 5, .inr (.inr (.inr (.inr rw)))))]) ++ (hb_L cy ((List.range 5).erase c) hh ++ tl_W cy g ss sv)))) :=
  pm2 (pre := (g 0, .inr (6, [.ref (a 0), .ref (b 0), .ref (g 1), .ref (g 3), .ref (g 4), .ref (t 0)])) :: st_W cy b un uf us up uq ud uo) (A := st_W cy a vn vf vs vp vq vd vo) (mid := tx_W cy t tm tx ++ [(g 1, .inr (1, [.int (hc 0), .ref (g 2)])), (g 2, .inl (cy 4, 5, .inr (.inr (.inr (.inr rw)))))]) (HB := hb_W cy 5 hh) (Z := tl_W cy g ss sv) (hb_split0 hc5 hh)
set_option maxRecDepth 100000 in
set_option maxHeartbeats 4000000 in
theorem ctX1_keep (l : Launch) (G : va_G) (cy : Nat → ClassId) (g a b t : Nat → Nat) (vn : Nat → Int32) (vf : Nat → UInt32) (vs : Nat → Int32) (vp : Nat → Int32) (vq : Nat → Int32) (vd : Nat → Int32) (vo : Nat → Int32) (un : Nat → Int32) (uf : Nat → UInt32) (us : Nat → Int32) (up : Nat → Int32) (uq : Nat → Int32) (ud : Nat → Int32) (uo : Nat → Int32) (tm tx hc : Nat → Int32) (hh ss : Nat → Sx) (sv : Nat → Int32) (h : kpre vn vo hc) : Met l yX1_keep (ws_ yX1_keep cX1_keep 2 none) ({ frames := 4, cells := 0, slots := 0, locals := 103 } : Room) (CP G cy [.ref (g 1), .ref (a 0)] (mo_W cy g a b t vn vf vs vp vq vd vo un uf us up uq ud uo tm tx hc hh ss sv)) (RV G (fun _ : Unit => True) (fun _ => mo_W cy g a b t vn vf vs vp vq vd vo un uf us up uq ud uo tm tx (hck hc) (hhk hc hh (vn, vf, vs, vp, vq, vd, vo)) ss sv) (A1 (mo_W cy g a b t vn vf vs vp vq vd vo un uf us up uq ud uo tm tx hc hh ss sv))) 0 0 (A1 (mo_W cy g a b t vn vf vs vp vq vd vo un uf us up uq ud uo tm tx hc hh ss sv)) := by
  refine hd_go (Qf := fun A => (RV G (fun _ : Unit => True) (fun _ => mo_W cy g a b t vn vf vs vp vq vd vo un uf us up uq ud uo tm tx (hck hc) (hhk hc hh (vn, vf, vs, vp, vq, vd, vo)) ss sv) A)) (by decide +kernel) (Nat.le_of_ble_eq_true rfl) ?_
  intro p e s m below meth c ls A hx hb hr hlocks S hE hP hD hS hl
  have hl : lv_has ls 2 [(0, .ref (g 1)), (1, .ref (a 0))] := hl
  have J : ∀ (hc1 : Nat → Int32) (hh1 : Nat → Sx) (cc : Nat), cc < 5 → hc1 0 = nI cc → upd hc1 0 (hc1 0 + 1) = hck hc → hset hh1 cc (vn, vf, vs, vp, vq, vd, vo) = hhk hc hh (vn, vf, vs, vp, vq, vd, vo) → ∀ (H : Heap) (locs : List Loc) (ls : Array Slot), va_P G vwCl (mo_W cy g a b t vn vf vs vp vq vd vo un uf us up uq ud uo tm tx hc1 hh1 ss sv) H → va_D A (mo_W cy g a b t vn vf vs vp vq vd vo un uf us up uq ud uo tm tx hc1 hh1 ss sv) → va_S A s.heap H locs → lv_has ls 2 [(0, .ref (g 1)), (1, .ref (a 0))] → W p l e (headSpec (ws_ yX1_keep cX1_keep 2 none) ({ frames := 4, cells := 0, slots := 0, locals := 103 } : Room)).room s m ([.ref (g 1), .ref (a 0)] : List Value).toArray below meth c H locs 0 0 (MQ below (RV G (fun _ : Unit => True) (fun _ => mo_W cy g a b t vn vf vs vp vq vd vo un uf us up uq ud uo tm tx (hck hc) (hhk hc hh (vn, vf, vs, vp, vq, vd, vo)) ss sv) A) ([.ref (g 1), .ref (a 0)] : List Value).toArray s 0 0 A) (F0 m 12 ls []) := by
    intro hc1 hh1 cc hcc ec e1 e2 H locs ls hP hD hS hl
    refine lv_aload_n hx hb dX1_keep_12 rfl (lv_at hl 0 rfl) ?_
    refine kg (v := .ref (g 2)) S hE hP 21 rfl rfl 1 (by decide) q_3_22 rfl rfl inlX1 dX1_keep_13 ?_
    refine lv_aload_n hx hb dX1_keep_16 rfl (lv_at hl 0 rfl) ?_
    refine kg (v := .int (hc1 0)) S hE hP 21 rfl rfl 0 (by decide) q_10_15 rfl rfl inlX1 dX1_keep_17 ?_
    rw [ec]
    refine va_aldq hx hb hE.1 hP 22 4 rfl rfl (i := nI cc) (vp_in_nI hcc (by decide)) dX1_keep_20 ?_
    rw [nI_clamp (by omega)]
    refine W.eq (g2 := F0 m 21 ls (.ref ((hh1 cc).1 0) :: [])) rfl ?_
    refine lv_aload_n hx hb dX1_keep_21 rfl (lv_at hl 1 rfl) ?_
    have q1 := mo_perm (cy := cy) g a b t vn vf vs vp vq vd vo un uf us up uq ud uo tm tx hc1 hh1 ss sv (fun j => some ((hh1 j).1 0)) hcc (hh1 cc).2
    rw [hset_self] at q1
    have q2 := mo_perm (cy := cy) g a b t vn vf vs vp vq vd vo un uf us up uq ud uo tm tx hc1 hh1 ss sv (fun j => some ((hset hh1 cc (vn, vf, vs, vp, vq, vd, vo) j).1 0)) hcc (vn, vf, vs, vp, vq, vd, vo)
    have e3 : (fun j => some ((hset hh1 cc (vn, vf, vs, vp, vq, vd, vo) j).1 0)) = fun j => some ((hh1 j).1 0) := by funext j; rw [hset_1]
    rw [e3] at q2
    refine kc_copy S hE h.1 q_10_20 q1 q2.symm hP hD hS ⟨Nat.le_of_ble_eq_true rfl, Nat.le_of_ble_eq_true rfl⟩ ⟨Nat.zero_le _, Nat.zero_le _⟩ hl.1 (Nat.le_of_ble_eq_true rfl) dX1_keep_22 (fun H locs hP hD hS => ?_)
    rw [← e3] at hP hD
    refine lv_aload_n hx hb dX1_keep_25 rfl (lv_at hl 0 rfl) ?_
    refine lv_dup hx hb dX1_keep_26 rfl ?_
    refine kg (v := .int (hc1 0)) S hE hP 21 rfl rfl 0 (by decide) q_10_15 rfl rfl inlX1 dX1_keep_27 ?_
    refine lv_iconst (v := 1) hx hb dX1_keep_30 (by decide) ?_
    refine lv_iadd hx hb dX1_keep_31 ?_
    refine kp S hE hP hD hS 21 rfl rfl 0 (by decide) q_10_15 rfl rfl tyX1_ok nmX1 inlX1 rfl rfl (Nat.le_of_ble_eq_true rfl) dX1_keep_32 (fun H locs hP hD hS => ?_)
    have hP : va_P G vwCl (mo_W cy g a b t vn vf vs vp vq vd vo un uf us up uq ud uo tm tx (upd hc1 0 (hc1 0 + 1)) (hset hh1 cc (vn, vf, vs, vp, vq, vd, vo)) ss sv) H := hP
    have hD : va_D A (mo_W cy g a b t vn vf vs vp vq vd vo un uf us up uq ud uo tm tx (upd hc1 0 (hc1 0 + 1)) (hset hh1 cc (vn, vf, vs, vp, vq, vd, vo)) ss sv) := hD
    rw [e1, e2] at hP hD
    exact W.vret hx hb hr (fun t ht hW => ⟨⟨(), rfl, trivial, ⟨hp_at ht hP, hD⟩⟩, hS.F ht⟩) hS.2.2 dX1_keep_35
  refine lv_aload_n hx hb dX1_keep_0 rfl (lv_at hl 0 rfl) ?_
  refine kg (v := .int (hc 0)) S hE hP 21 rfl rfl 0 (by decide) q_10_15 rfl rfl inlX1 dX1_keep_1 ?_
  refine lv_iconst (v := 5) hx hb dX1_keep_4 (by decide) ?_
  refine lv_icmp_lt (tgt := 12) hx hb dX1_keep_5 (by decide) (fun c_5 => ?_) (fun c_5 => ?_)
  · obtain ⟨cc, hcc, ec⟩ := vp_in_of (h.2 c_5) (by decide)
    refine J hc hh cc hcc ec ?_ ?_ _ _ _ hP hD hS hl
    · unfold hck; rw [if_pos c_5]
    · unfold hhk; rw [if_pos c_5, ec, nI_clamp (by omega)]
  · refine lv_aload_n hx hb dX1_keep_8 rfl (lv_at hl 0 rfl) ?_
    refine kc_Vv (L := mp_W cy g a b t vn vf vs vp vq vd vo un uf us up uq ud uo tm tx) (w0 := hr_W cy g hc (fun j => some ((hh j).1 0)) hh) (R' := tl_W cy g ss sv) (As := []) (rest := []) S hE (ctX1_dropOldest l G cy g hc hh) q_10_16 q_10_17 q_10_18 q_1_16 q_10_19 rfl 0 rfl rfl ydX1_dropOldest ⟨⟨rfl, rfl⟩, ⟨Nat.le_of_ble_eq_true rfl, Nat.le_of_ble_eq_true rfl⟩⟩ ⟨Nat.zero_le _, Nat.zero_le _⟩ hP hD hS rfl hl.1 rfl (Nat.le_of_ble_eq_true rfl) dX1_keep_9 (fun u H locs _ hP hD hS => ?_)
    have q : (mp_W cy g a b t vn vf vs vp vq vd vo un uf us up uq ud uo tm tx ++ (hr_W cy g (upd hc 0 4) (fun j => some ((hrot hh j).1 0)) hh ++ tl_W cy g ss sv)).Perm (mo_W cy g a b t vn vf vs vp vq vd vo un uf us up uq ud uo tm tx (upd hc 0 4) (hrot hh) ss sv) := List.Perm.append_left _ (List.Perm.append_right _ (List.Perm.cons _ (List.Perm.cons _ (hrot_perm cy hh))))
    refine J (upd hc 0 4) (hrot hh) 4 (by decide) rfl ?_ ?_ _ _ _ (hP.perm q) (hD.perm q) hS hl
    · unfold hck; rw [if_neg c_5]; rfl
    · unfold hhk; rw [if_neg c_5]
def tpre (hc : Nat → Int32) (hh : Nat → Sx) : Prop := vp_in (hc 0 - 1) 5 ∧ cpre (hh (Int32.toNatClampNeg (hc 0 - 1))).2.1 (hh (Int32.toNatClampNeg (hc 0 - 1))).2.2.2.2.2.2.2
set_option maxRecDepth 100000 in
set_option maxHeartbeats 4000000 in
theorem ctX1_takeLatest (l : Launch) (G : va_G) (cy : Nat → ClassId) (g a b t : Nat → Nat) (vn : Nat → Int32) (vf : Nat → UInt32) (vs : Nat → Int32) (vp : Nat → Int32) (vq : Nat → Int32) (vd : Nat → Int32) (vo : Nat → Int32) (un : Nat → Int32) (uf : Nat → UInt32) (us : Nat → Int32) (up : Nat → Int32) (uq : Nat → Int32) (ud : Nat → Int32) (uo : Nat → Int32) (tm tx hc : Nat → Int32) (hh ss : Nat → Sx) (sv : Nat → Int32) (h : tpre hc hh) : Met l yX1_takeLatest (ws_ yX1_takeLatest cX1_takeLatest 2 none) ({ frames := 4, cells := 0, slots := 0, locals := 103 } : Room) (CP G cy [.ref (g 1), .ref (a 0)] (mo_W cy g a b t vn vf vs vp vq vd vo un uf us up uq ud uo tm tx hc hh ss sv)) (RV G (fun _ : Unit => True) (fun _ => mo_W cy g a b t (hh (Int32.toNatClampNeg (hc 0 - 1))).2.1 (hh (Int32.toNatClampNeg (hc 0 - 1))).2.2.1 (hh (Int32.toNatClampNeg (hc 0 - 1))).2.2.2.1 (hh (Int32.toNatClampNeg (hc 0 - 1))).2.2.2.2.1 (hh (Int32.toNatClampNeg (hc 0 - 1))).2.2.2.2.2.1 (hh (Int32.toNatClampNeg (hc 0 - 1))).2.2.2.2.2.2.1 (hh (Int32.toNatClampNeg (hc 0 - 1))).2.2.2.2.2.2.2 un uf us up uq ud uo tm tx (upd hc 0 (hc 0 - 1)) hh ss sv) (A1 (mo_W cy g a b t vn vf vs vp vq vd vo un uf us up uq ud uo tm tx hc hh ss sv))) 0 0 (A1 (mo_W cy g a b t vn vf vs vp vq vd vo un uf us up uq ud uo tm tx hc hh ss sv)) := by
  refine hd_go (Qf := fun A => (RV G (fun _ : Unit => True) (fun _ => mo_W cy g a b t (hh (Int32.toNatClampNeg (hc 0 - 1))).2.1 (hh (Int32.toNatClampNeg (hc 0 - 1))).2.2.1 (hh (Int32.toNatClampNeg (hc 0 - 1))).2.2.2.1 (hh (Int32.toNatClampNeg (hc 0 - 1))).2.2.2.2.1 (hh (Int32.toNatClampNeg (hc 0 - 1))).2.2.2.2.2.1 (hh (Int32.toNatClampNeg (hc 0 - 1))).2.2.2.2.2.2.1 (hh (Int32.toNatClampNeg (hc 0 - 1))).2.2.2.2.2.2.2 un uf us up uq ud uo tm tx (upd hc 0 (hc 0 - 1)) hh ss sv) A)) (by decide +kernel) (Nat.le_of_ble_eq_true rfl) ?_
  intro p e s m below meth c ls A hx hb hr hlocks S hE hP hD hS hl
  have hl : lv_has ls 2 [(0, .ref (g 1)), (1, .ref (a 0))] := hl
  refine lv_aload_n hx hb dX1_takeLatest_0 rfl (lv_at hl 0 rfl) ?_
  refine lv_dup hx hb dX1_takeLatest_1 rfl ?_
  refine kg (v := .int (hc 0)) S hE hP 21 rfl rfl 0 (by decide) q_10_15 rfl rfl inlX1 dX1_takeLatest_2 ?_
  refine lv_iconst (v := 1) hx hb dX1_takeLatest_5 (by decide) ?_
  refine lv_isub hx hb dX1_takeLatest_6 ?_
  refine kp S hE hP hD hS 21 rfl rfl 0 (by decide) q_10_15 rfl rfl tyX1_ok nmX1 inlX1 rfl rfl (Nat.le_of_ble_eq_true rfl) dX1_takeLatest_7 (fun H locs hP hD hS => ?_)
  have hP : va_P G vwCl (mo_W cy g a b t vn vf vs vp vq vd vo un uf us up uq ud uo tm tx (upd hc 0 (hc 0 - 1)) hh ss sv) H := hP
  have hD : va_D A (mo_W cy g a b t vn vf vs vp vq vd vo un uf us up uq ud uo tm tx (upd hc 0 (hc 0 - 1)) hh ss sv) := hD
  refine lv_aload_n hx hb dX1_takeLatest_10 rfl (lv_at hl 1 rfl) ?_
  refine lv_aload_n hx hb dX1_takeLatest_11 rfl (lv_at hl 0 rfl) ?_
  refine kg (v := .ref (g 2)) S hE hP 21 rfl rfl 1 (by decide) q_3_22 rfl rfl inlX1 dX1_takeLatest_12 ?_
  refine lv_aload_n hx hb dX1_takeLatest_15 rfl (lv_at hl 0 rfl) ?_
  refine kg (v := .int (hc 0 - 1)) S hE hP 21 rfl rfl 0 (by decide) q_10_15 rfl rfl inlX1 dX1_takeLatest_16 ?_
  refine va_aldq hx hb hE.1 hP 22 4 rfl rfl (i := hc 0 - 1) h.1 dX1_takeLatest_19 ?_
  refine W.eq (g2 := F0 m 20 ls (.ref ((hh (Int32.toNatClampNeg (hc 0 - 1))).1 0) :: [.ref (a 0)])) rfl ?_
  have hlt : Int32.toNatClampNeg (hc 0 - 1) < 5 := Nat.not_le.mp fun q => h.1 (Or.inr q)
  have q1 := mo_perm2 (cy := cy) g a b t vn vf vs vp vq vd vo un uf us up uq ud uo tm tx (upd hc 0 (hc 0 - 1)) hh ss sv (fun j => some ((hh j).1 0)) hlt
  have q2 := mo_perm2 (cy := cy) g a b t (hh (Int32.toNatClampNeg (hc 0 - 1))).2.1 (hh (Int32.toNatClampNeg (hc 0 - 1))).2.2.1 (hh (Int32.toNatClampNeg (hc 0 - 1))).2.2.2.1 (hh (Int32.toNatClampNeg (hc 0 - 1))).2.2.2.2.1 (hh (Int32.toNatClampNeg (hc 0 - 1))).2.2.2.2.2.1 (hh (Int32.toNatClampNeg (hc 0 - 1))).2.2.2.2.2.2.1 (hh (Int32.toNatClampNeg (hc 0 - 1))).2.2.2.2.2.2.2 un uf us up uq ud uo tm tx (upd hc 0 (hc 0 - 1)) hh ss sv (fun j => some ((hh j).1 0)) hlt
  refine kc_copy S hE h.2 q_10_20 q1 q2.symm hP hD hS ⟨Nat.le_of_ble_eq_true rfl, Nat.le_of_ble_eq_true rfl⟩ ⟨Nat.zero_le _, Nat.zero_le _⟩ hl.1 (Nat.le_of_ble_eq_true rfl) dX1_takeLatest_20 (fun H locs hP hD hS => ?_)
  exact W.vret hx hb hr (fun t ht hW => ⟨⟨(), rfl, trivial, ⟨hp_at ht hP, hD⟩⟩, hS.F ht⟩) hS.2.2 dX1_takeLatest_23
theorem hb_fst {cy : Nat → ClassId} {h1 h2 : Nat → Sx} : ∀ (l : List Nat), (∀ i, (h1 i).1 = (h2 i).1) → (hb_L cy l h1).map Prod.fst = (hb_L cy l h2).map Prod.fst
  | [], _ => rfl
  | x :: l, h => by
    unfold hb_L
    rw [List.flatMap_cons, List.flatMap_cons, List.map_append, List.map_append]
    have := hb_fst (cy := cy) l h
    unfold hb_L at this
    rw [this]
    congr 1
    show [(h1 x).1 0, (h1 x).1 1, (h1 x).1 2, (h1 x).1 3, (h1 x).1 4, (h1 x).1 5, (h1 x).1 6, (h1 x).1 7, (h1 x).1 8] = [(h2 x).1 0, (h2 x).1 1, (h2 x).1 2, (h2 x).1 3, (h2 x).1 4, (h2 x).1 5, (h2 x).1 6, (h2 x).1 7, (h2 x).1 8]
    rw [h x]
theorem keep_ha {cy : Nat → ClassId} (g a b t : Nat → Nat) (vn : Nat → Int32) (vf : Nat → UInt32) (vs : Nat → Int32) (vp : Nat → Int32) (vq : Nat → Int32) (vd : Nat → Int32) (vo : Nat → Int32) (un : Nat → Int32) (uf : Nat → UInt32) (us : Nat → Int32) (up : Nat → Int32) (uq : Nat → Int32) (ud : Nat → Int32) (uo : Nat → Int32) (tm tx hc : Nat → Int32) (hh ss : Nat → Sx) (sv : Nat → Int32) (x : Cx) : ((mo_W cy g a b t vn vf vs vp vq vd vo un uf us up uq ud uo tm tx (hck hc) (hhk hc hh x) ss sv).map Prod.fst).Perm ((mo_W cy g a b t vn vf vs vp vq vd vo un uf us up uq ud uo tm tx hc hh ss sv).map Prod.fst) := by
  have key : ((hb_W cy 5 (hhk hc hh x)).map Prod.fst).Perm ((hb_W cy 5 hh).map Prod.fst) := by
    unfold hhk
    split
    · unfold hb_W
      rw [hb_fst (h1 := hset hh (Int32.toNatClampNeg (hc 0)) x) (h2 := hh) _ (hset_1 hh _ x)]
    · have e : (hb_W cy 5 (hset (hrot hh) 4 x)).map Prod.fst = (hb_W cy 5 (hrot hh)).map Prod.fst := hb_fst _ (hset_1 _ _ x)
      rw [e]
      exact (hrot_perm cy hh).symm.map _
  rw [List.map_append, List.map_append, List.map_append, List.map_append]
  refine List.Perm.append_left _ (List.Perm.append_right _ ?_)
  exact List.Perm.cons _ (List.Perm.cons _ key)
theorem so_eq {cy : Nat → ClassId} (g a b t : Nat → Nat) (vn : Nat → Int32) (vf : Nat → UInt32) (vs : Nat → Int32) (vp : Nat → Int32) (vq : Nat → Int32) (vd : Nat → Int32) (vo : Nat → Int32) (un : Nat → Int32) (uf : Nat → UInt32) (us : Nat → Int32) (up : Nat → Int32) (uq : Nat → Int32) (ud : Nat → Int32) (uo : Nat → Int32) (tm tx hc : Nat → Int32) (hh ss : Nat → Sx) (sv : Nat → Int32) (rw : Nat → Option Nat) : mp_W cy g a b t vn vf vs vp vq vd vo un uf us up uq ud uo tm tx ++ (hr_W cy g hc (fun j => some ((hh j).1 0)) hh ++ ((g 3, .inl (cy 4, 2, .inr (.inr (.inr (.inr rw))))) :: (g 4, .inl (cy 3, 2, .inl sv)) :: hb_W cy 2 ss)) = ((g 0, .inr (6, [.ref (a 0), .ref (b 0), .ref (g 1), .ref (g 3), .ref (g 4), .ref (t 0)])) :: st_W cy b un uf us up uq ud uo) ++ (st_W cy a vn vf vs vp vq vd vo ++ ((tx_W cy t tm tx ++ (hr_W cy g hc (fun j => some ((hh j).1 0)) hh ++ [(g 3, .inl (cy 4, 2, .inr (.inr (.inr (.inr rw))))), (g 4, .inl (cy 3, 2, .inl sv))])) ++ (hb_W cy 2 ss ++ []))) := by
  simp only [List.append_assoc, List.cons_append, List.nil_append, List.append_nil]
theorem so_perm {cy : Nat → ClassId} (g a b t : Nat → Nat) (vn : Nat → Int32) (vf : Nat → UInt32) (vs : Nat → Int32) (vp : Nat → Int32) (vq : Nat → Int32) (vd : Nat → Int32) (vo : Nat → Int32) (un : Nat → Int32) (uf : Nat → UInt32) (us : Nat → Int32) (up : Nat → Int32) (uq : Nat → Int32) (ud : Nat → Int32) (uo : Nat → Int32) (tm tx hc : Nat → Int32) (hh ss : Nat → Sx) (sv : Nat → Int32) (rw : Nat → Option Nat) {c : Nat} (hc2 : c < 2) (x : Cx) : (mp_W cy g a b t vn vf vs vp vq vd vo un uf us up uq ud uo tm tx ++ (hr_W cy g hc (fun j => some ((hh j).1 0)) hh ++ ((g 3, .inl (cy 4, 2, .inr (.inr (.inr (.inr rw))))) :: (g 4, .inl (cy 3, 2, .inl sv)) :: hb_W cy 2 (hset ss c x)))).Perm ((sx_W cy ((ss c).1, x) ++ st_W cy a vn vf vs vp vq vd vo) ++ (((g 0, .inr (6, [.ref (a 0), .ref (b 0), .ref (g 1), .ref (g 3), .ref (g 4), .ref (t 0)])) :: st_W cy b un uf us up uq ud uo) ++ ((tx_W cy t tm tx ++ (hr_W cy g hc (fun j => some ((hh j).1 0)) hh ++ [(g 3, .inl (cy 4, 2, .inr (.inr (.inr (.inr rw))))), (g 4, .inl (cy 3, 2, .inl sv))])) ++ (hb_L cy ((List.range 2).erase c) ss ++ [])))) := by
  rw [so_eq]
  exact pm1 (hb_split hc2 ss ((ss c).1, x))
theorem so_perm2 {cy : Nat → ClassId} (g a b t : Nat → Nat) (vn : Nat → Int32) (vf : Nat → UInt32) (vs : Nat → Int32) (vp : Nat → Int32) (vq : Nat → Int32) (vd : Nat → Int32) (vo : Nat → Int32) (un : Nat → Int32) (uf : Nat → UInt32) (us : Nat → Int32) (up : Nat → Int32) (uq : Nat → Int32) (ud : Nat → Int32) (uo : Nat → Int32) (tm tx hc : Nat → Int32) (hh ss : Nat → Sx) (sv : Nat → Int32) (rw : Nat → Option Nat) {c : Nat} (hc2 : c < 2) : (mp_W cy g a b t vn vf vs vp vq vd vo un uf us up uq ud uo tm tx ++ (hr_W cy g hc (fun j => some ((hh j).1 0)) hh ++ ((g 3, .inl (cy 4, 2, .inr (.inr (.inr (.inr rw))))) :: (g 4, .inl (cy 3, 2, .inl sv)) :: hb_W cy 2 ss))).Perm ((st_W cy a vn vf vs vp vq vd vo ++ sx_W cy (ss c)) ++ (((g 0, .inr (6, [.ref (a 0), .ref (b 0), .ref (g 1), .ref (g 3), .ref (g 4), .ref (t 0)])) :: st_W cy b un uf us up uq ud uo) ++ ((tx_W cy t tm tx ++ (hr_W cy g hc (fun j => some ((hh j).1 0)) hh ++ [(g 3, .inl (cy 4, 2, .inr (.inr (.inr (.inr rw))))), (g 4, .inl (cy 3, 2, .inl sv))])) ++ (hb_L cy ((List.range 2).erase c) ss ++ [])))) := by
  rw [so_eq]
  exact pm2 (hb_split0 hc2 ss)
