/-! the present and the forecast side by side -/
theorem pm7 {α : Type} (m : α) (X Y T E : List α) : ((m :: (X ++ (Y ++ T))) ++ E).Perm ((X ++ Y) ++ (m :: (T ++ E))) := by
  classical
  refine List.perm_iff_count.mpr fun z => ?_
  simp only [List.count_append, List.count_cons, List.cons_append]
  omega
theorem fc_perm {cy : Nat → ClassId} (g a b t : Nat → Nat) (vn : Nat → Int32) (vf : Nat → UInt32) (vs : Nat → Int32) (vp : Nat → Int32) (vq : Nat → Int32) (vd : Nat → Int32) (vo : Nat → Int32) (un : Nat → Int32) (uf : Nat → UInt32) (us : Nat → Int32) (up : Nat → Int32) (uq : Nat → Int32) (ud : Nat → Int32) (uo : Nat → Int32) (tm tx hc : Nat → Int32) (hh ss : Nat → Sx) (sv : Nat → Int32) : (mo_W cy g a b t vn vf vs vp vq vd vo un uf us up uq ud uo tm tx hc hh ss sv).Perm ((st_W cy b un uf us up uq ud uo ++ st_W cy a vn vf vs vp vq vd vo) ++ (((g 0, .inr (6, [.ref (a 0), .ref (b 0), .ref (g 1), .ref (g 3), .ref (g 4), .ref (t 0)])) : Nat × va_E) :: (tx_W cy t tm tx ++ (hr_W cy g hc (fun j => some ((hh j).1 0)) hh ++ tl_W cy g ss sv)))) := pm7 (α := Nat × va_E) ((g 0, .inr (6, [.ref (a 0), .ref (b 0), .ref (g 1), .ref (g 3), .ref (g 4), .ref (t 0)])) : Nat × va_E) (st_W cy b un uf us up uq ud uo) (st_W cy a vn vf vs vp vq vd vo) (tx_W cy t tm tx) (hr_W cy g hc (fun j => some ((hh j).1 0)) hh ++ tl_W cy g ss sv)
