/-! the law's check -/
theorem dm_t1 : ∀ k, k < 7 → (¬ (5 : Int32) < nI k - 1) ∧ nI k - 1 + 1 = nI (k + 1) - 1 := by decide +kernel
section
variable {xB xD xn xo xc xl oc xu xa pk xw en cn cb : Int32} {xr cv : Int64} {kd na nb se fn tg tn cT cB wN wF wB : Nat → Int32} {pF pS bo wV : Nat → Int64} {N : Nat}
theorem l_ok88 {post : Int32 → Prop} {J : Int32 → Prop} {x7 : Int32} (hN : N < 1000) (K : ∀ v2, ∃ kk : Int32, (∀ post : Int32 → Prop, post kk → wpX_resultKind post (xB, xD, xn, xo, xc, xl, oc, xu, xa, pk, xr, xw, en, cn, cb, cv, kd, na, nb, se, fn, tg, tn, pF, pS, cT, cB, bo, wN, wF, wB, wV) x7 v2) ∧ (kk = 3 → ∃ t, t < N ∧ ∀ post : Int32 → Prop, post (nI t) → wpX_resultValue post (xB, xD, xn, xo, xc, xl, oc, xu, xa, pk, xr, xw, en, cn, cb, cv, kd, na, nb, se, fn, tg, tn, pF, pS, cT, cB, bo, wN, wF, wB, wV) x7 v2)) (hJ : J (x7 + 1)) : ∀ d k, k + d = 16 → wL_ok_88 post J (nI N) x7 xB xD xn xo xc xl oc xu xa pk xr xw en cn cb cv kd na nb se fn tg tn pF pS cT cB bo wN wF wB wV (d + 1) (nI k) := by
  intro d
  induction d with
  | zero =>
    intro k hk
    have e : k = 16 := by omega
    subst e
    exact br_t (nI_le (a := 16) (Nat.le_refl _) (by omega)) (nm_e hJ)
  | succ d ih =>
    intro k hk
    obtain ⟨kk, h1, h2⟩ := K (nI k)
    refine br_f (nI_ge (b := 16) (by omega) (by omega)) (h1 _ ?_)
    by_cases e : kk = 3
    · obtain ⟨t, ht, h3⟩ := h2 e
      exact br_t e (h3 _ (br_f (nI_pos (by omega)) (br_t (nI_lt ht (by omega)) (nm_r (nI_1 k) (ih (k + 1) (by omega))))))
    · exact br_f e (nm_r (nI_1 k) (ih (k + 1) (by omega)))
theorem l_ok79 {post : Int32 → Prop} (hN : N < 1000) (K : ∀ v1 v2, ∃ kk : Int32, (∀ post : Int32 → Prop, post kk → wpX_resultKind post (xB, xD, xn, xo, xc, xl, oc, xu, xa, pk, xr, xw, en, cn, cb, cv, kd, na, nb, se, fn, tg, tn, pF, pS, cT, cB, bo, wN, wF, wB, wV) v1 v2) ∧ (kk = 3 → ∃ t, t < N ∧ ∀ post : Int32 → Prop, post (nI t) → wpX_resultValue post (xB, xD, xn, xo, xc, xl, oc, xu, xa, pk, xr, xw, en, cn, cb, cv, kd, na, nb, se, fn, tg, tn, pF, pS, cT, cB, bo, wN, wF, wB, wV) v1 v2)) (h : post 1) : ∀ d k, k + d = 7 → wL_ok_79 post (nI N) xB xD xn xo xc xl oc xu xa pk xr xw en cn cb cv kd na nb se fn tg tn pF pS cT cB bo wN wF wB wV (d + 1) (nI k - 1) := by
  intro d
  induction d with
  | zero =>
    intro k hk
    have e : k = 7 := by omega
    subst e
    exact br_t (by decide) h
  | succ d ih =>
    intro k hk
    obtain ⟨t1, t2⟩ := dm_t1 k (by omega)
    refine br_f t1 ⟨16 + 1, l_ok88 hN (K _) ?_ 16 0 (by omega)⟩
    rw [t2]
    exact ih (k + 1) (by omega)
end
theorem l_ok {post : Int32 → Prop} {u : St2} {B D : Nat} (R : dm_XR B D u) (h : post 1) : wpL_ok post u (nI B) (nI D) := by
  obtain ⟨xB, xD, xn, xo, xc, xl, oc, xu, xa, pk, xr, xw, en, cn, cb, cv, kd, na, nb, se, fn, tg, tn, pF, pS, cT, cB, bo, wN, wF, wB, wV⟩ := u
  obtain ⟨n, q, t, rfl, rfl, rfl, rfl, rfl, rfl, h1, h2, h3, h4, h5, b1, b2, d1, d2, P, R⟩ := R
  have hn := P.1
  have hcl := dm_cnt_le kd n
  have T70 : wL_ok_70 post (nI B) (nI D) (nI n) (nI (dm_O kd n)) xc xl oc (nI t) xa (nI q) xr xw en cn cb cv kd na nb se fn tg tn pF pS cT cB bo wN wF wB wV := by
    unfold wL_ok_70 wpX_lambdaCount
    rcases R with ⟨rfl, rfl, rfl⟩ | ⟨rfl, rfl, C, R⟩
    · refine ⟨7 + 1, l_ok79 (N := 0) (by omega) (fun v1 v2 => ?_) h 7 0 (by omega)⟩
      obtain ⟨kk, g1, g2⟩ := x_kv (kd := kd) (n := 0) (v1 := v1) (v2 := v2) dm_R10
      exact ⟨kk, g1, g2⟩
    · exact ⟨7 + 1, l_ok79 (by omega) (fun v1 v2 => x_kv R) h 7 0 (by omega)⟩
  have T55 : wL_ok_55 post (nI D) (nI q) oc (nI B) (nI D) (nI n) (nI (dm_O kd n)) xc xl oc (nI t) xa (nI q) xr xw en cn cb cv kd na nb se fn tg tn pF pS cT cB bo wN wF wB wV := by
    by_cases e : oc = 13
    · exact br_t e (br_t (by rw [h5 e]) T70)
    · exact br_f e T70
  refine br_f (nI_pos (by omega)) (br_f (nI_nlt h1 (by omega)) (br_f (nI_nlt h2 (by omega)) (br_t (nI_le h3 (by omega)) ?_)))
  by_cases e : oc = 12
  · exact br_t e (br_t (by rw [h4 e]) T55)
  · exact br_f e T55
