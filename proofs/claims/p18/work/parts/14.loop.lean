def dm_LX (post : Int32 → St2 → Prop) (m : Nat) (en1 : Int32) (g : Nat) (u : St2) : Prop := match u with
  | (xB, xD, xn, xo, xc, xl, oc, xu, xa, pk, xr, xw, en, cn, cb, cv, kd, na, nb, se, fn, tg, tn, pF, pS, cT, cB, bo, wN, wF, wB, wV) => wX_run_18 post m en1 (nI g) xB xD xn xo xc xl oc xu xa pk xr xw en cn cb cv kd na nb se fn tg tn pF pS cT cB bo wN wF wB wV
def dm_H (B D K gX : Nat) (en1 : Int32) (u : St2) : Prop := ∃ (oc : Int32) (u' : St2), dm_XR B D u' ∧ ∀ post : Int32 → St2 → Prop, post oc u' → ∀ m, K ≤ m → dm_LX post m en1 gX u
theorem dm_H_s {B D K gX : Nat} {e1 e2 : Int32} {u u2 : St2} (hX : ∀ post m, dm_LX post m e2 (gX + 1) u2 → dm_LX post (m + 1) e1 gX u) (g : dm_H B D K (gX + 1) e2 u2) : dm_H B D (K + 1) gX e1 u := by
  obtain ⟨oc, u', R, a⟩ := g
  refine ⟨oc, u', R, fun post h m hm => ?_⟩
  obtain ⟨m, rfl⟩ : ∃ q, m = q + 1 := ⟨m - 1, by omega⟩
  exact hX post m (a post h m (by omega))
theorem dm_H_y {B D K gX : Nat} {e1 : Int32} {u : St2} (g : dm_H B D K gX e1 u) : dm_H B D (K + 1) gX e1 u := by
  obtain ⟨oc, u', R, a⟩ := g
  exact ⟨oc, u', R, fun post h m hm => a post h m (by omega)⟩
theorem dm_H_e {B D K gX : Nat} {e1 code : Int32} {u u2 : St2} (hK : 1 ≤ K) (R : dm_XR B D u2) (hX : ∀ post : Int32 → St2 → Prop, ∀ m, post code u2 → dm_LX post (m + 1 + 1) e1 gX u) : dm_H B D (K + 1) gX e1 u := by
  refine ⟨code, u2, R, fun post h m hm => ?_⟩
  obtain ⟨m, rfl⟩ : ∃ q, m = q + 1 + 1 := ⟨m - 2, by omega⟩
  exact hX post m h
def dm_en (w : Nat) : Int32 := if w = 0 then 1 else 0
section
variable {xB xD xn xo xc xl oc xu xa pk xw en cn cb : Int32} {xr cv : Int64} {kd na nb se fn tg tn cT cB wN wF wB : Nat → Int32} {pF pS bo wV : Nat → Int64} {g m w : Nat} {post : Int32 → St2 → Prop}
theorem x_lE (hg : g < 1000000) (h : wpX_enterNode (fun r u => match u with | (xB, xD, xn, xo, xc, xl, oc, xu, xa, pk, xr, xw, en, cn, cb, cv, kd, na, nb, se, fn, tg, tn, pF, pS, cT, cB, bo, wN, wF, wB, wV) => wX_run_47 post (wX_run_18 post m) (nI g) r xB xD xn xo xc xl oc xu xa pk xr xw en cn cb cv kd na nb se fn tg tn pF pS cT cB bo wN wF wB wV) (xB, xD, xn, xo, xc, xl, oc, xu, xa, pk, xr, xw, 1, cn, cb, cv, kd, na, nb, se, fn, tg, tn, pF, pS, cT, cB, bo, wN, wF, wB, wV)) : dm_LX post (m + 1) 0 g (xB, xD, xn, xo, xc, xl, oc, xu, xa, pk, xr, xw, 1, cn, cb, cv, kd, na, nb, se, fn, tg, tn, pF, pS, cT, cB, bo, wN, wF, wB, wV) :=
  br_f (nI_ge (b := 1000000) hg (by omega)) (br_t rfl (br_f (by decide) h))
theorem x_lF (hg : g < 1000000) (h : wpX_resumeNode (fun r u => match u with | (xB, xD, xn, xo, xc, xl, oc, xu, xa, pk, xr, xw, en, cn, cb, cv, kd, na, nb, se, fn, tg, tn, pF, pS, cT, cB, bo, wN, wF, wB, wV) => wX_run_47 post (wX_run_18 post m) (nI g) r xB xD xn xo xc xl oc xu xa pk xr xw en cn cb cv kd na nb se fn tg tn pF pS cT cB bo wN wF wB wV) (xB, xD, xn, xo, xc, xl, oc, xu, xa, pk, xr, nI (w + 1), 0, cn, cb, cv, kd, na, nb, se, fn, tg, tn, pF, pS, cT, cB, bo, wN, wF, wB, wV)) : dm_LX post (m + 1) (dm_en (w + 1)) g (xB, xD, xn, xo, xc, xl, oc, xu, xa, pk, xr, nI (w + 1), 0, cn, cb, cv, kd, na, nb, se, fn, tg, tn, pF, pS, cT, cB, bo, wN, wF, wB, wV) :=
  br_f (nI_ge (b := 1000000) hg (by omega)) (br_t rfl (br_t rfl h))
theorem x_7E (h : dm_LX post m 0 (g + 1) (xB, xD, xn, xo, xc, xl, 0, xu, xa, pk, xr, xw, 1, cn, cb, cv, kd, na, nb, se, fn, tg, tn, pF, pS, cT, cB, bo, wN, wF, wB, wV)) : wX_run_47 post (wX_run_18 post m) (nI g) 0 xB xD xn xo xc xl oc xu xa pk xr xw 1 cn cb cv kd na nb se fn tg tn pF pS cT cB bo wN wF wB wV :=
  br_t rfl (br_f (by decide) (nm_r (nI_1 g) h))
theorem x_7F (hw : w < 1000) (h : dm_LX post m (dm_en w) (g + 1) (xB, xD, xn, xo, xc, xl, 0, xu, xa, pk, xr, nI w, 0, cn, cb, cv, kd, na, nb, se, fn, tg, tn, pF, pS, cT, cB, bo, wN, wF, wB, wV)) : wX_run_47 post (wX_run_18 post m) (nI g) 0 xB xD xn xo xc xl oc xu xa pk xr (nI w) 0 cn cb cv kd na nb se fn tg tn pF pS cT cB bo wN wF wB wV := by
  refine br_t rfl (br_t rfl ?_)
  cases w with
  | zero => exact br_t rfl (nm_r (nI_1 g) h)
  | succ w => exact br_f (nI_ne0 (by omega) (by omega)) (nm_r (nI_1 g) h)
theorem x_7e {z : Int32} (hz : ¬ z = 0) (h : post z (xB, xD, xn, xo, xc, xl, z, xu, xa, pk, xr, xw, en, cn, cb, cv, kd, na, nb, se, fn, tg, tn, pF, pS, cT, cB, bo, wN, wF, wB, wV)) : wX_run_47 post (wX_run_18 post (m + 1)) (nI g) z xB xD xn xo xc xl oc xu xa pk xr xw en cn cb cv kd na nb se fn tg tn pF pS cT cB bo wN wF wB wV := by
  refine br_f hz (nm_r (nI_1 g) ?_)
  by_cases c : 1000000 ≤ nI (g + 1)
  · exact br_t c (br_f hz h)
  · exact br_f c (br_f (by decide) (br_f hz h))
theorem x_end (h : post 0 (xB, xD, xn, xo, xc, xl, 0, xu, xa, pk, cv, xw, en, cn, cb, cv, kd, na, nb, se, fn, tg, tn, pF, pS, cT, cB, bo, wN, wF, wB, wV)) : dm_LX post (m + 1) 1 g (xB, xD, xn, xo, xc, xl, 0, xu, xa, pk, xr, xw, en, cn, cb, cv, kd, na, nb, se, fn, tg, tn, pF, pS, cT, cB, bo, wN, wF, wB, wV) := by
  by_cases c : 1000000 ≤ nI g
  · exact br_t c (br_t rfl h)
  · exact br_f c (br_f (by decide) (br_t rfl h))
end
