/-! the two loops of run -/
def dm_LX (post : Int32 → SX → Prop) (m : Nat) (en1 : Int32) (g : Nat) (u : SX) : Prop := match u with
  | (xB, xD, xn, xo, xc, xl, oc, xu, xa, pk, xr, xw, en, cn, cb, cv, kd, na, nb, se, fn, tg, tn, pF, pS, cT, cB, bo, wN, wF, wB, wV) => wX_run_18 post m en1 (nI g) xB xD xn xo xc xl oc xu xa pk xr xw en cn cb cv kd na nb se fn tg tn pF pS cT cB bo wN wF wB wV
def dm_LY (post : Int32 → SY → Prop) (m : Nat) (g : Nat) (v : SY) : Prop := match v with
  | (yB, yD, yn, yc, yo, yu, ya, yp, yr, yh, ye, ys, er, rt, kd, na, nb, vK, vA, vB, eN, eV, eX, fN, fS, fE, fV) => wY_run_63 post m (nI g) yB yD yn yc yo yu ya yp yr yh ye ys er rt kd na nb vK vA vB eN eV eX fN fS fE fV
def dm_G (K gX gY : Nat) (en1 : Int32) (u : SX) (v : SY) : Prop := ∃ (oc : Int32) (u' : SX) (v' : SY), (∀ k, i_Rel k u' v') ∧ (∀ post : Int32 → SX → Prop, post oc u' → ∀ m, K ≤ m → dm_LX post m en1 gX u) ∧ (∀ post : Int32 → SY → Prop, post oc v' → ∀ m, K ≤ m → dm_LY post m gY v)
theorem dm_G_s {K gX gY : Nat} {e1 e2 : Int32} {u u2 : SX} {v v2 : SY} (hX : ∀ post m, dm_LX post m e2 (gX + 1) u2 → dm_LX post (m + 1) e1 gX u) (hY : ∀ post m, dm_LY post m (gY + 1) v2 → dm_LY post (m + 1) gY v) (g : dm_G K (gX + 1) (gY + 1) e2 u2 v2) : dm_G (K + 1) gX gY e1 u v := by
  obtain ⟨oc, u', v', R, a, b⟩ := g
  refine ⟨oc, u', v', R, fun post h m hm => ?_, fun post h m hm => ?_⟩
  · obtain ⟨m, rfl⟩ : ∃ q, m = q + 1 := ⟨m - 1, by omega⟩
    exact hX post m (a post h m (by omega))
  · obtain ⟨m, rfl⟩ : ∃ q, m = q + 1 := ⟨m - 1, by omega⟩
    exact hY post m (b post h m (by omega))
theorem dm_G_y {K gX gY : Nat} {e1 : Int32} {u : SX} {v v2 : SY} (hY : ∀ post m, dm_LY post m (gY + 1) v2 → dm_LY post (m + 1) gY v) (g : dm_G K gX (gY + 1) e1 u v2) : dm_G (K + 1) gX gY e1 u v := by
  obtain ⟨oc, u', v', R, a, b⟩ := g
  refine ⟨oc, u', v', R, fun post h m hm => a post h m (by omega), fun post h m hm => ?_⟩
  obtain ⟨m, rfl⟩ : ∃ q, m = q + 1 := ⟨m - 1, by omega⟩
  exact hY post m (b post h m (by omega))
theorem dm_G_e {K gX gY : Nat} {e1 code : Int32} {u u2 : SX} {v v2 : SY} (hK : 1 ≤ K) (R : ∀ k, i_Rel k u2 v2) (hX : ∀ post : Int32 → SX → Prop, ∀ m, post code u2 → dm_LX post (m + 1 + 1) e1 gX u) (hY : ∀ post : Int32 → SY → Prop, ∀ m, post code v2 → dm_LY post (m + 1 + 1) gY v) : dm_G (K + 1) gX gY e1 u v := by
  refine ⟨code, u2, v2, R, fun post h m hm => ?_, fun post h m hm => ?_⟩
  · obtain ⟨m, rfl⟩ : ∃ q, m = q + 1 + 1 := ⟨m - 2, by omega⟩
    exact hX post m h
  · obtain ⟨m, rfl⟩ : ∃ q, m = q + 1 + 1 := ⟨m - 2, by omega⟩
    exact hY post m h
def dm_en (w : Nat) : Int32 := if w = 0 then 1 else 0
section
variable {xB xD xn xo xc xl oc xu xa pk xw en cn cb : Int32} {xr cv : Int64} {kd na nb se fn tg tn cT cB wN wF wB : Nat → Int32} {pF pS bo wV : Nat → Int64} {g m w : Nat} {post : Int32 → SX → Prop}
theorem x_lE (hg : g < 1000000) (h : wpX_enterNode (fun r u => match u with | (xB, xD, xn, xo, xc, xl, oc, xu, xa, pk, xr, xw, en, cn, cb, cv, kd, na, nb, se, fn, tg, tn, pF, pS, cT, cB, bo, wN, wF, wB, wV) => wX_run_47 post (wX_run_18 post m) (nI g) r xB xD xn xo xc xl oc xu xa pk xr xw en cn cb cv kd na nb se fn tg tn pF pS cT cB bo wN wF wB wV) (xB, xD, xn, xo, xc, xl, oc, xu, xa, pk, xr, xw, 1, cn, cb, cv, kd, na, nb, se, fn, tg, tn, pF, pS, cT, cB, bo, wN, wF, wB, wV)) : dm_LX post (m + 1) 0 g (xB, xD, xn, xo, xc, xl, oc, xu, xa, pk, xr, xw, 1, cn, cb, cv, kd, na, nb, se, fn, tg, tn, pF, pS, cT, cB, bo, wN, wF, wB, wV) :=
  br_f (nI_ge (b := 1000000) hg (by omega)) (br_t rfl (br_f (by decide) h))
theorem x_lF (hg : g < 1000000) (h : wpX_resumeNode (fun r u => match u with | (xB, xD, xn, xo, xc, xl, oc, xu, xa, pk, xr, xw, en, cn, cb, cv, kd, na, nb, se, fn, tg, tn, pF, pS, cT, cB, bo, wN, wF, wB, wV) => wX_run_47 post (wX_run_18 post m) (nI g) r xB xD xn xo xc xl oc xu xa pk xr xw en cn cb cv kd na nb se fn tg tn pF pS cT cB bo wN wF wB wV) (xB, xD, xn, xo, xc, xl, oc, xu, xa, pk, xr, nI (w + 1), 0, cn, cb, cv, kd, na, nb, se, fn, tg, tn, pF, pS, cT, cB, bo, wN, wF, wB, wV)) : dm_LX post (m + 1) (dm_en (w + 1)) g (xB, xD, xn, xo, xc, xl, oc, xu, xa, pk, xr, nI (w + 1), 0, cn, cb, cv, kd, na, nb, se, fn, tg, tn, pF, pS, cT, cB, bo, wN, wF, wB, wV) :=
  br_f (nI_ge (b := 1000000) hg (by omega)) (br_t rfl (br_t rfl h))
theorem x_7E (h : dm_LX post m 0 (g + 1) (xB, xD, xn, xo, xc, xl, 0, xu, xa, pk, xr, xw, 1, cn, cb, cv, kd, na, nb, se, fn, tg, tn, pF, pS, cT, cB, bo, wN, wF, wB, wV)) : wX_run_47 post (wX_run_18 post m) (nI g) 0 xB xD xn xo xc xl oc xu xa pk xr xw 1 cn cb cv kd na nb se fn tg tn pF pS cT cB bo wN wF wB wV :=
  br_t rfl (br_f (by decide) (nm_r (nI_1 g) h))
theorem x_7F (hw : w < 1000) (h : dm_LX post m (dm_en w) (g + 1) (xB, xD, xn, xo, xc, xl, 0, xu, xa, pk, xr, nI w, 0, cn, cb, cv, kd, na, nb, se, fn, tg, tn, pF, pS, cT, cB, bo, wN, wF, wB, wV)) : wX_run_47 post (wX_run_18 post m) (nI g) 0 xB xD xn xo xc xl oc xu xa pk xr (nI w) 0 cn cb cv kd na nb se fn tg tn pF pS cT cB bo wN wF wB wV := by
  refine br_t rfl (br_t rfl ?_)
  cases w with
  | zero => exact br_t rfl (nm_r (nI_1 g) h)
  | succ w => exact br_f (nI_ne0 (by omega) (by omega)) (nm_r (nI_1 g) h)
theorem x_7e {z : Int32} (hz : ¬ z = 0) (h : post z (xB, xD, xn, xo, xc, xl, z, xu, xa, pk, xr, xw, en, cn, cb, cv, kd, na, nb, se, fn, tg, tn, pF, pS, cT, cB, bo, wN, wF, wB, wV)) : wX_run_47 post (wX_run_18 post (m + 1)) (nI g) z xB xD xn xo xc xl oc xu xa pk xr xw en cn cb cv kd na nb se fn tg tn pF pS cT cB bo wN wF wB wV := by
  refine br_f hz (nm_r (nI_1 g) ?_)
  by_cases c : 1000000 ≤ nI (g + 1)
  · exact br_t c (br_f hz h)
  · exact br_f c (br_f (by decide) (br_f hz h))
theorem x_end (h : post 0 (xB, xD, xn, xo, xc, xl, 0, xu, xa, pk, cv, xw, en, cn, cb, cv, kd, na, nb, se, fn, tg, tn, pF, pS, cT, cB, bo, wN, wF, wB, wV)) : dm_LX post (m + 1) 1 g (xB, xD, xn, xo, xc, xl, 0, xu, xa, pk, xr, xw, en, cn, cb, cv, kd, na, nb, se, fn, tg, tn, pF, pS, cT, cB, bo, wN, wF, wB, wV) := by
  by_cases c : 1000000 ≤ nI g
  · exact br_t c (br_t rfl h)
  · exact br_f c (br_f (by decide) (br_t rfl h))
end
section
variable {yB yD yn yc yo yu ya yp yr yh ye ys er rt : Int32} {kd na nb vK vA vB eN eV eX fN fS fE fV : Nat → Int32} {g m j : Nat} {post : Int32 → SY → Prop}
theorem y_l (hg : g < 100000) (hj : j < 1000) (h : wpY_step (fun u => match u with | (yB, yD, yn, yc, yo, yu, ya, yp, yr, yh, ye, ys, er, rt, kd, na, nb, vK, vA, vB, eN, eV, eX, fN, fS, fE, fV) => ∀ x1 : Int32, x1 = nI g + 1 → wY_run_63 post m x1 yB yD yn yc yo yu ya yp yr yh ye ys er rt kd na nb vK vA vB eN eV eX fN fS fE fV) (yB, yD, yn, yc, yo, yu, ya, yp, yr, yh, ye, nI (j + 1), 0, rt, kd, na, nb, vK, vA, vB, eN, eV, eX, fN, fS, fE, fV)) : dm_LY post (m + 1) g (yB, yD, yn, yc, yo, yu, ya, yp, yr, yh, ye, nI (j + 1), 0, rt, kd, na, nb, vK, vA, vB, eN, eV, eX, fN, fS, fE, fV) :=
  br_f (nI_ge (b := 100000) hg (by omega)) (br_f (nI_nle (by omega) (by omega)) (br_t rfl h))
theorem y_7 (h : dm_LY post m (g + 1) (yB, yD, yn, yc, yo, yu, ya, yp, yr, yh, ye, ys, er, rt, kd, na, nb, vK, vA, vB, eN, eV, eX, fN, fS, fE, fV)) : ∀ x1 : Int32, x1 = nI g + 1 → wY_run_63 post m x1 yB yD yn yc yo yu ya yp yr yh ye ys er rt kd na nb vK vA vB eN eV eX fN fS fE fV := nm_r (nI_1 g) h
theorem y_7e {z : Int32} (hz : ¬ z = 0) (h : post z (yB, yD, yn, yc, z, yu, ya, yp, yr, yh, ye, ys, z, rt, kd, na, nb, vK, vA, vB, eN, eV, eX, fN, fS, fE, fV)) : ∀ x1 : Int32, x1 = nI g + 1 → wY_run_63 post (m + 1) x1 yB yD yn yc yo yu ya yp yr yh ye ys z rt kd na nb vK vA vB eN eV eX fN fS fE fV := by
  refine nm_e ?_
  have W : wY_run_93 post yB yD yn yc yo yu ya yp yr yh ye ys z rt kd na nb vK vA vB eN eV eX fN fS fE fV := br_f hz h
  by_cases c : 100000 ≤ nI g + 1
  · exact br_t c W
  · refine br_f c ?_
    by_cases d : ys ≤ 0
    · exact br_t d W
    · exact br_f d (br_f hz W)
theorem y_end (h : post 0 (yB, yD, yn, yc, 0, yu, ya, yp, rt, yh, ye, nI 0, 0, rt, kd, na, nb, vK, vA, vB, eN, eV, eX, fN, fS, fE, fV)) : dm_LY post (m + 1) g (yB, yD, yn, yc, yo, yu, ya, yp, yr, yh, ye, nI 0, 0, rt, kd, na, nb, vK, vA, vB, eN, eV, eX, fN, fS, fE, fV) := by
  have W : wY_run_93 post yB yD yn yc yo yu ya yp yr yh ye (nI 0) 0 rt kd na nb vK vA vB eN eV eX fN fS fE fV := br_t rfl h
  by_cases c : 100000 ≤ nI g
  · exact br_t c W
  · exact br_f c (br_t (nI_le (b := 0) (Nat.le_refl _) (by omega)) W)
end
