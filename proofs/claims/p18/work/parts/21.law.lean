/-! the law -/
theorem l_cell {post : Int32 → Prop} {L i : Nat} {xs : Nat → Int32} (hL : L ≤ 260) (hi : i < 2 ^ 31) (h : ∀ r, post r) : wpL_cell post L xs () (nI i) := by
  by_cases e : L ≤ i
  · exact br_t (nI_le e hi) (h _)
  · exact br_f (nI_ge (by omega) (by omega)) ⟨vp_in_nI (by omega) (by omega), h _⟩
theorem l_mod {post : Int32 → Prop} {p0 p1 : Int32} (hp : ¬ p1 = 0) (h : ∀ r, post r) : wpL_mod post () p0 p1 := ⟨hp, nm_e (br_c (fun _ => h _) (fun _ => h _))⟩
theorem l_ar {post : Int32 → Prop} {p0 : Int32} (h : ∀ r, (∃ a, a ≤ 3 ∧ r = nI a) → post r) : wpL_arity post () p0 :=
  br_c (fun _ => h _ ⟨0, by omega, rfl⟩) (fun _ => br_c (fun _ => h _ ⟨0, by omega, rfl⟩) (fun _ => br_c (fun _ => h _ ⟨3, by omega, rfl⟩) (fun _ => br_c (fun _ => h _ ⟨1, by omega, rfl⟩) (fun _ => br_c (fun _ => h _ ⟨1, by omega, rfl⟩) (fun _ => br_c (fun _ => h _ ⟨1, by omega, rfl⟩) (fun _ => h _ ⟨2, by omega, rfl⟩))))))
theorem l_low2 {post : Int32 → Prop} {p0 : Int32} (h : ∀ r, post r) : ∀ d k, k + d = 8 → wL_low_2 post p0 (d + 1) (nI k) := by
  intro d
  induction d with
  | zero =>
    intro k hk
    have e : k = 8 := by omega
    subst e
    exact br_t (nI_le (a := 8) (Nat.le_refl _) (by omega)) (h _)
  | succ d ih =>
    intro k hk
    exact br_f (nI_ge (b := 8) (by omega) (by omega)) (br_c (fun _ => nm_r (nI_1 k) (ih (k + 1) (by omega))) (fun _ => h _))
theorem l_low {post : Int32 → Prop} {p0 : Int32} (h : ∀ r, post r) : wpL_low post () p0 := ⟨8 + 1, l_low2 h 8 0 (by omega)⟩
section
variable {post : Int32 → Prop} {L : Nat} {xs : Nat → Int32} {x3 x4 x6 x7 x8 x11 x12 x13 x14 x15 x16 x17 x18 x19 x20 : Int32} {x9 : Int64} {kc ks B D t : Nat}
variable {J74 : (Int32 → Int32 → Int32 → Int32 → Int32 → Int32 → Int32 → Int32 → Int32 → Int32 → Int32 → Int32 → Int64 → Int32 → Int32 → Int32 → Int32 → Int64 → (Nat → Int32) → (Nat → Int32) → (Nat → Int32) → (Nat → Int32) → (Nat → Int32) → (Nat → Int32) → (Nat → Int32) → (Nat → Int64) → (Nat → Int64) → (Nat → Int32) → (Nat → Int32) → (Nat → Int64) → (Nat → Int32) → (Nat → Int32) → (Nat → Int32) → (Nat → Int64) → Prop)} {J160 : (Int32 → Int64 → Int32 → Int32 → Int32 → Int32 → Int32 → Int32 → Int32 → Int32 → Int32 → Int32 → Int32 → Int32 → Int32 → Int64 → Int32 → Int32 → Int32 → Int32 → Int64 → (Nat → Int32) → (Nat → Int32) → (Nat → Int32) → (Nat → Int32) → (Nat → Int32) → (Nat → Int32) → (Nat → Int32) → (Nat → Int64) → (Nat → Int64) → (Nat → Int32) → (Nat → Int32) → (Nat → Int64) → (Nat → Int32) → (Nat → Int32) → (Nat → Int32) → (Nat → Int64) → Prop)}
theorem l_514 {xB xD xn xo xc xl oc xu xa pk xw en cn cb : Int32} {xr cv : Int64} {kd na nb se fn tg tn cT cB wN wF wB : Nat → Int32} {pF pS bo wV : Nat → Int64} {a : Nat} (ha : a ≤ 3) (hJ : ∀ x9, J160 x6 x9 (x11 + nI a) x12 (x13 + 1) xB xD xn xo xc xl oc xu xa pk xr xw en cn cb cv kd na nb se fn tg tn pF pS cT cB bo wN wF wB wV) : ∀ d k x9, k + d = a → wL_law_514 post L xs J74 J160 x3 x4 x6 x7 x8 x11 x12 x13 x14 (nI a) kc ks xB xD xn xo xc xl oc xu xa pk xr xw en cn cb cv kd na nb se fn tg tn pF pS cT cB bo wN wF wB wV (d + 1) x9 (nI k) := by
  intro d
  induction d with
  | zero =>
    intro k x9 hk
    have e : k = a := by omega
    subst e
    exact br_t (nI_le (Nat.le_refl _) (by omega)) (nm_e (nm_e (hJ _)))
  | succ d ih =>
    intro k x9 hk
    exact br_f (nI_ge (by omega) (by omega)) (nm_e (nm_r (nI_1 k) (ih (k + 1) _ (by omega))))
theorem l_373 {xB xD xn xo xc xl oc xu xa pk xw en cn cb : Int32} {xr cv : Int64} {kd na nb se fn tg tn cT cB wN wF wB : Nat → Int32} {pF pS bo wV : Nat → Int64} (R : dm_XR B D (xB, xD, xn, xo, xc, xl, oc, xu, xa, pk, xr, xw, en, cn, cb, cv, kd, na, nb, se, fn, tg, tn, pF, pS, cT, cB, bo, wN, wF, wB, wV)) (ha : ∃ a, a ≤ 3 ∧ x18 = nI a) (hJ : ∀ (x9 : Int64) (x11 x12 : Int32) {xB xD xn xo xc xl oc xu xa pk xw en cn cb : Int32} {xr cv : Int64} {kd na nb se fn tg tn cT cB wN wF wB : Nat → Int32} {pF pS bo wV : Nat → Int64}, dm_XR B D (xB, xD, xn, xo, xc, xl, oc, xu, xa, pk, xr, xw, en, cn, cb, cv, kd, na, nb, se, fn, tg, tn, pF, pS, cT, cB, bo, wN, wF, wB, wV) → J160 x6 x9 x11 x12 (nI (t + 1)) xB xD xn xo xc xl oc xu xa pk xr xw en cn cb cv kd na nb se fn tg tn pF pS cT cB bo wN wF wB wV) : wL_law_373 post L xs J74 J160 (nI B) (nI D) x6 x7 x8 x9 x11 x12 (nI t) x14 x17 x18 x19 x20 kc ks xB xD xn xo xc xl oc xu xa pk xr xw en cn cb cv kd na nb se fn tg tn pF pS cT cB bo wN wF wB wV := by
  obtain ⟨a, ha, rfl⟩ := ha
  unfold wL_law_373
  refine x_nodeM R (fun r u' R' => ?_) _ _ _
  obtain ⟨xB, xD, xn, xo, xc, xl, oc, xu, xa, pk, xr, xw, en, cn, cb, cv, kd, na, nb, se, fn, tg, tn, pF, pS, cT, cB, bo, wN, wF, wB, wV⟩ := u'
  refine nm_e (l_ok R' (br_f (by decide) ?_))
  by_cases e13 : x17 = 13
  · exact br_t e13 (nm_e (nm_e (nm_r (nI_1 t) (hJ _ _ _ R'))))
  refine br_f e13 ?_
  by_cases e14 : x17 = 14
  · exact br_t e14 (nm_e (nm_e (nm_e (nm_r (nI_1 t) (hJ _ _ _ R')))))
  refine br_f e14 ?_
  by_cases e15 : x17 = 15
  · exact br_t e15 (nm_e (nm_e (nm_e (nm_r (nI_1 t) (hJ _ _ _ R')))))
  refine br_f e15 ⟨a + 1, l_514 ha (fun y => ?_) a 0 _ (by omega)⟩
  rw [nI_1]
  exact hJ _ _ _ R'
theorem l_275 {xB xD xn xo xc xl oc xu xa pk xw en cn cb : Int32} {xr cv : Int64} {kd na nb se fn tg tn cT cB wN wF wB : Nat → Int32} {pF pS bo wV : Nat → Int64} (R : dm_XR B D (xB, xD, xn, xo, xc, xl, oc, xu, xa, pk, xr, xw, en, cn, cb, cv, kd, na, nb, se, fn, tg, tn, pF, pS, cT, cB, bo, wN, wF, wB, wV)) (ha : ∃ a, a ≤ 3 ∧ x18 = nI a) (hJ : ∀ (x9 : Int64) (x11 x12 : Int32) {xB xD xn xo xc xl oc xu xa pk xw en cn cb : Int32} {xr cv : Int64} {kd na nb se fn tg tn cT cB wN wF wB : Nat → Int32} {pF pS bo wV : Nat → Int64}, dm_XR B D (xB, xD, xn, xo, xc, xl, oc, xu, xa, pk, xr, xw, en, cn, cb, cv, kd, na, nb, se, fn, tg, tn, pF, pS, cT, cB, bo, wN, wF, wB, wV) → J160 x6 x9 x11 x12 (nI (t + 1)) xB xD xn xo xc xl oc xu xa pk xr xw en cn cb cv kd na nb se fn tg tn pF pS cT cB bo wN wF wB wV) : wL_law_275 post L xs J74 J160 (nI B) (nI D) x6 x7 x8 x9 x11 x12 (nI t) x14 x16 x17 x18 kc ks xB xD xn xo xc xl oc xu xa pk xr xw en cn cb cv kd na nb se fn tg tn pF pS cT cB bo wN wF wB wV := by
  unfold wL_law_275
  exact l_mod (by decide) (fun r1 => l_mod (by decide) (fun r2 => br_c (fun _ => l_mod (by decide) (fun r3 => nm_e (l_373 R ha hJ))) (fun _ => br_c (fun _ => br_c (fun _ => br_c (fun _ => l_373 R ha hJ) (fun _ => br_c (fun _ => l_mod (by decide) (fun r3 => nm_e (l_373 R ha hJ))) (fun _ => l_low (fun r3 => l_373 R ha hJ)))) (fun _ => l_373 R ha hJ)) (fun _ => l_373 R ha hJ))))
theorem l_256 {xB xD xn xo xc xl oc xu xa pk xw en cn cb : Int32} {xr cv : Int64} {kd na nb se fn tg tn cT cB wN wF wB : Nat → Int32} {pF pS bo wV : Nat → Int64} (R : dm_XR B D (xB, xD, xn, xo, xc, xl, oc, xu, xa, pk, xr, xw, en, cn, cb, cv, kd, na, nb, se, fn, tg, tn, pF, pS, cT, cB, bo, wN, wF, wB, wV)) (hJ : ∀ (x9 : Int64) (x11 x12 : Int32) {xB xD xn xo xc xl oc xu xa pk xw en cn cb : Int32} {xr cv : Int64} {kd na nb se fn tg tn cT cB wN wF wB : Nat → Int32} {pF pS bo wV : Nat → Int64}, dm_XR B D (xB, xD, xn, xo, xc, xl, oc, xu, xa, pk, xr, xw, en, cn, cb, cv, kd, na, nb, se, fn, tg, tn, pF, pS, cT, cB, bo, wN, wF, wB, wV) → J160 x6 x9 x11 x12 (nI (t + 1)) xB xD xn xo xc xl oc xu xa pk xr xw en cn cb cv kd na nb se fn tg tn pF pS cT cB bo wN wF wB wV) : wL_law_256 post L xs J74 J160 (nI B) (nI D) x6 x7 x8 x9 x11 x12 (nI t) x14 x15 x16 kc ks xB xD xn xo xc xl oc xu xa pk xr xw en cn cb cv kd na nb se fn tg tn pF pS cT cB bo wN wF wB wV := by
  unfold wL_law_256 wL_law_270
  exact br_c (fun _ => l_275 R ⟨0, by omega, rfl⟩ hJ) (fun _ => l_275 R ⟨0, by omega, rfl⟩ hJ)
theorem l_160 {M : Nat} (hL : L ≤ 260) (hM : M < 2 ^ 30) (hE : ∀ (i : Nat) {xB xD xn xo xc xl oc xu xa pk xw en cn cb : Int32} {xr cv : Int64} {kd na nb se fn tg tn cT cB wN wF wB : Nat → Int32} {pF pS bo wV : Nat → Int64}, i ≤ M → dm_XR B D (xB, xD, xn, xo, xc, xl, oc, xu, xa, pk, xr, xw, en, cn, cb, cv, kd, na, nb, se, fn, tg, tn, pF, pS, cT, cB, bo, wN, wF, wB, wV) → wL_law_551 post L xs J74 (nI B) (nI D) (nI i) x7 x8 kc ks xB xD xn xo xc xl oc xu xa pk xr xw en cn cb cv kd na nb se fn tg tn pF pS cT cB bo wN wF wB wV) : ∀ (d t i : Nat) (x9 : Int64) (x11 x12 : Int32) {xB xD xn xo xc xl oc xu xa pk xw en cn cb : Int32} {xr cv : Int64} {kd na nb se fn tg tn cT cB wN wF wB : Nat → Int32} {pF pS bo wV : Nat → Int64}, t + d = 32 → i + 2 * d ≤ M → dm_XR B D (xB, xD, xn, xo, xc, xl, oc, xu, xa, pk, xr, xw, en, cn, cb, cv, kd, na, nb, se, fn, tg, tn, pF, pS, cT, cB, bo, wN, wF, wB, wV) → wL_law_160 post L xs J74 (nI B) (nI D) x7 x8 kc ks (d + 1) (nI i) x9 x11 x12 (nI t) xB xD xn xo xc xl oc xu xa pk xr xw en cn cb cv kd na nb se fn tg tn pF pS cT cB bo wN wF wB wV := by
  intro d
  induction d with
  | zero =>
    intro t i x9 x11 x12 xB xD xn xo xc xl oc xu xa pk xw en cn cb xr cv kd na nb se fn tg tn cT cB wN wF wB pF pS bo wV ht hi R
    have e : t = 32 := by omega
    subst e
    exact br_t (nI_le (a := 32) (Nat.le_refl _) (by omega)) (hE i (by omega) R)
  | succ d ih =>
    intro t i x9 x11 x12 xB xD xn xo xc xl oc xu xa pk xw en cn cb xr cv kd na nb se fn tg tn cT cB wN wF wB pF pS bo wV ht hi R
    refine br_f (nI_ge (b := 32) (by omega) (by omega)) (br_c (fun _ => hE i (by omega) R) (fun _ => nm_e (nm_e (nm_e (nm_r (nI_1 i) (l_cell hL (by omega) (fun r => nm_r (nI_1 (i + 1)) (l_cell hL (by omega) (fun r2 => l_mod (by decide) (fun r3 => nm_e (l_ar (fun r4 ha => ?_)))))))))))) 
    have hJ : ∀ (x9 : Int64) (x11 x12 : Int32) {xB xD xn xo xc xl oc xu xa pk xw en cn cb : Int32} {xr cv : Int64} {kd na nb se fn tg tn cT cB wN wF wB : Nat → Int32} {pF pS bo wV : Nat → Int64}, dm_XR B D (xB, xD, xn, xo, xc, xl, oc, xu, xa, pk, xr, xw, en, cn, cb, cv, kd, na, nb, se, fn, tg, tn, pF, pS, cT, cB, bo, wN, wF, wB, wV) → wL_law_160 post L xs J74 (nI B) (nI D) x7 x8 kc ks (d + 1) (nI (i + 1 + 1)) x9 x11 x12 (nI (t + 1)) xB xD xn xo xc xl oc xu xa pk xr xw en cn cb cv kd na nb se fn tg tn pF pS cT cB bo wN wF wB wV := by
      intro x9 x11 x12 xB xD xn xo xc xl oc xu xa pk xw en cn cb xr cv kd na nb se fn tg tn cT cB wN wF wB pF pS bo wV R'
      exact ih (t + 1) (i + 1 + 1) x9 x11 x12 (by omega) (by omega) R'
    exact br_c (fun _ => l_256 R hJ) (fun _ => br_c (fun _ => l_275 R ha hJ) (fun _ => l_256 R hJ))
theorem l_577 {xB xD xn xo xc xl oc xu xa pk xw en cn cb : Int32} {xr cv : Int64} {kd na nb se fn tg tn cT cB wN wF wB : Nat → Int32} {pF pS bo wV : Nat → Int64} (R : dm_XR B D (xB, xD, xn, xo, xc, xl, oc, xu, xa, pk, xr, xw, en, cn, cb, cv, kd, na, nb, se, fn, tg, tn, pF, pS, cT, cB, bo, wN, wF, wB, wV)) (hJ : ∀ {xB xD xn xo xc xl oc xu xa pk xw en cn cb : Int32} {xr cv : Int64} {kd na nb se fn tg tn cT cB wN wF wB : Nat → Int32} {pF pS bo wV : Nat → Int64}, dm_XR B D (xB, xD, xn, xo, xc, xl, oc, xu, xa, pk, xr, xw, en, cn, cb, cv, kd, na, nb, se, fn, tg, tn, pF, pS, cT, cB, bo, wN, wF, wB, wV) → J74 x6 (x7 + 1) xB xD xn xo xc xl oc xu xa pk xr xw en cn cb cv kd na nb se fn tg tn pF pS cT cB bo wN wF wB wV) : wL_law_577 post L xs J74 (nI B) (nI D) x6 x7 x8 kc ks xB xD xn xo xc xl oc xu xa pk xr xw en cn cb cv kd na nb se fn tg tn pF pS cT cB bo wN wF wB wV := by
  unfold wL_law_577
  refine x_runM R (fun r u' R' => ?_)
  obtain ⟨xB, xD, xn, xo, xc, xl, oc, xu, xa, pk, xr, xw, en, cn, cb, cv, kd, na, nb, se, fn, tg, tn, pF, pS, cT, cB, bo, wN, wF, wB, wV⟩ := u'
  refine l_ok R' (br_f (by decide) (br_c (fun _ => nm_e (hJ R')) (fun _ => ?_)))
  refine x_runM R' (fun r u' R' => ?_)
  obtain ⟨xB, xD, xn, xo, xc, xl, oc, xu, xa, pk, xr, xw, en, cn, cb, cv, kd, na, nb, se, fn, tg, tn, pF, pS, cT, cB, bo, wN, wF, wB, wV⟩ := u'
  exact l_ok R' (br_f (by decide) (nm_e (hJ R')))
theorem l_551 {xB xD xn xo xc xl oc xu xa pk xw en cn cb : Int32} {xr cv : Int64} {kd na nb se fn tg tn cT cB wN wF wB : Nat → Int32} {pF pS bo wV : Nat → Int64} (R : dm_XR B D (xB, xD, xn, xo, xc, xl, oc, xu, xa, pk, xr, xw, en, cn, cb, cv, kd, na, nb, se, fn, tg, tn, pF, pS, cT, cB, bo, wN, wF, wB, wV)) (hJ : ∀ {xB xD xn xo xc xl oc xu xa pk xw en cn cb : Int32} {xr cv : Int64} {kd na nb se fn tg tn cT cB wN wF wB : Nat → Int32} {pF pS bo wV : Nat → Int64}, dm_XR B D (xB, xD, xn, xo, xc, xl, oc, xu, xa, pk, xr, xw, en, cn, cb, cv, kd, na, nb, se, fn, tg, tn, pF, pS, cT, cB, bo, wN, wF, wB, wV) → J74 x6 (x7 + 1) xB xD xn xo xc xl oc xu xa pk xr xw en cn cb cv kd na nb se fn tg tn pF pS cT cB bo wN wF wB wV) : wL_law_551 post L xs J74 (nI B) (nI D) x6 x7 x8 kc ks xB xD xn xo xc xl oc xu xa pk xr xw en cn cb cv kd na nb se fn tg tn pF pS cT cB bo wN wF wB wV := by
  unfold wL_law_551
  refine br_c (fun _ => ?_) (fun _ => l_577 R hJ)
  refine x_compM R (fun r u' R' => ?_)
  obtain ⟨xB, xD, xn, xo, xc, xl, oc, xu, xa, pk, xr, xw, en, cn, cb, cv, kd, na, nb, se, fn, tg, tn, pF, pS, cT, cB, bo, wN, wF, wB, wV⟩ := u'
  exact l_ok R' (br_f (by decide) (l_577 R' hJ))
theorem l_130 {xB xD xn xo xc xl oc xu xa pk xw en cn cb : Int32} {xr cv : Int64} {kd na nb se fn tg tn cT cB wN wF wB : Nat → Int32} {pF pS bo wV : Nat → Int64} {M i : Nat} (hL : L ≤ 260) (hM : M < 2 ^ 30) (hi : i + 64 ≤ M) (R : dm_XR B D (xB, xD, xn, xo, xc, xl, oc, xu, xa, pk, xr, xw, en, cn, cb, cv, kd, na, nb, se, fn, tg, tn, pF, pS, cT, cB, bo, wN, wF, wB, wV)) (hJ : ∀ (i : Nat) {xB xD xn xo xc xl oc xu xa pk xw en cn cb : Int32} {xr cv : Int64} {kd na nb se fn tg tn cT cB wN wF wB : Nat → Int32} {pF pS bo wV : Nat → Int64}, i ≤ M → dm_XR B D (xB, xD, xn, xo, xc, xl, oc, xu, xa, pk, xr, xw, en, cn, cb, cv, kd, na, nb, se, fn, tg, tn, pF, pS, cT, cB, bo, wN, wF, wB, wV) → J74 (nI i) (x7 + 1) xB xD xn xo xc xl oc xu xa pk xr xw en cn cb cv kd na nb se fn tg tn pF pS cT cB bo wN wF wB wV) : wL_law_130 post L xs J74 (nI B) (nI D) (nI i) x7 x8 kc ks xB xD xn xo xc xl oc xu xa pk xr xw en cn cb cv kd na nb se fn tg tn pF pS cT cB bo wN wF wB wV := by
  unfold wL_law_130
  refine x_resetM R (fun u' R' => ?_)
  obtain ⟨xB, xD, xn, xo, xc, xl, oc, xu, xa, pk, xr, xw, en, cn, cb, cv, kd, na, nb, se, fn, tg, tn, pF, pS, cT, cB, bo, wN, wF, wB, wV⟩ := u'
  refine l_ok R' (br_f (by decide) ⟨32 + 1, ?_⟩)
  refine l_160 hL hM (fun i => ?_) 32 0 i 0 1 0 (by omega) (by omega) R'
  intro xB xD xn xo xc xl oc xu xa pk xw en cn cb xr cv kd na nb se fn tg tn cT cB wN wF wB pF pS bo wV hi R'
  exact l_551 R' (fun R' => hJ i hi R')
theorem l_93 {xB xD xn xo xc xl oc xu xa pk xw en cn cb : Int32} {xr cv : Int64} {kd na nb se fn tg tn cT cB wN wF wB : Nat → Int32} {pF pS bo wV : Nat → Int64} {M i : Nat} (hL : L ≤ 260) (hM : M < 2 ^ 30) (hi : i + 65 ≤ M) (R : dm_XR B D (xB, xD, xn, xo, xc, xl, oc, xu, xa, pk, xr, xw, en, cn, cb, cv, kd, na, nb, se, fn, tg, tn, pF, pS, cT, cB, bo, wN, wF, wB, wV)) (hJ : ∀ (i : Nat) {xB xD xn xo xc xl oc xu xa pk xw en cn cb : Int32} {xr cv : Int64} {kd na nb se fn tg tn cT cB wN wF wB : Nat → Int32} {pF pS bo wV : Nat → Int64}, i ≤ M → dm_XR B D (xB, xD, xn, xo, xc, xl, oc, xu, xa, pk, xr, xw, en, cn, cb, cv, kd, na, nb, se, fn, tg, tn, pF, pS, cT, cB, bo, wN, wF, wB, wV) → J74 (nI i) (x7 + 1) xB xD xn xo xc xl oc xu xa pk xr xw en cn cb cv kd na nb se fn tg tn pF pS cT cB bo wN wF wB wV) : wL_law_93 post L xs J74 (nI B) (nI D) (nI i) x7 kc ks xB xD xn xo xc xl oc xu xa pk xr xw en cn cb cv kd na nb se fn tg tn pF pS cT cB bo wN wF wB wV := by
  unfold wL_law_93
  refine nm_r (nI_1 i) (l_cell hL (by omega) (fun r => br_c (fun _ => l_130 hL hM (by omega) R hJ) (fun _ => ?_)))
  refine x_runM R (fun r u' R' => ?_)
  obtain ⟨xB, xD, xn, xo, xc, xl, oc, xu, xa, pk, xr, xw, en, cn, cb, cv, kd, na, nb, se, fn, tg, tn, pF, pS, cT, cB, bo, wN, wF, wB, wV⟩ := u'
  exact l_ok R' (br_f (by decide) (l_130 hL hM (by omega) R' hJ))
theorem l_74 (hL : L ≤ 260) (h : post 1) : ∀ (d r i : Nat) {xB xD xn xo xc xl oc xu xa pk xw en cn cb : Int32} {xr cv : Int64} {kd na nb se fn tg tn cT cB wN wF wB : Nat → Int32} {pF pS bo wV : Nat → Int64}, r + d = L + 1 → i ≤ 2 + 65 * r → dm_XR B D (xB, xD, xn, xo, xc, xl, oc, xu, xa, pk, xr, xw, en, cn, cb, cv, kd, na, nb, se, fn, tg, tn, pF, pS, cT, cB, bo, wN, wF, wB, wV) → wL_law_74 post L xs (nI B) (nI D) kc ks (d + 1) (nI i) (nI r) xB xD xn xo xc xl oc xu xa pk xr xw en cn cb cv kd na nb se fn tg tn pF pS cT cB bo wN wF wB wV := by
  intro d
  induction d with
  | zero =>
    intro r i xB xD xn xo xc xl oc xu xa pk xw en cn cb xr cv kd na nb se fn tg tn cT cB wN wF wB pF pS bo wV hr hi R
    exact br_t (nI_lt (a := L) (b := r) (by omega) (by omega)) h
  | succ d ih =>
    intro r i xB xD xn xo xc xl oc xu xa pk xw en cn cb xr cv kd na nb se fn tg tn cT cB wN wF wB pF pS bo wV hr hi R
    have hJ : ∀ (i' : Nat) {xB xD xn xo xc xl oc xu xa pk xw en cn cb : Int32} {xr cv : Int64} {kd na nb se fn tg tn cT cB wN wF wB : Nat → Int32} {pF pS bo wV : Nat → Int64}, i' ≤ i + 65 → dm_XR B D (xB, xD, xn, xo, xc, xl, oc, xu, xa, pk, xr, xw, en, cn, cb, cv, kd, na, nb, se, fn, tg, tn, pF, pS, cT, cB, bo, wN, wF, wB, wV) → wL_law_74 post L xs (nI B) (nI D) kc ks (d + 1) (nI i') (nI r + 1) xB xD xn xo xc xl oc xu xa pk xr xw en cn cb cv kd na nb se fn tg tn pF pS cT cB bo wN wF wB wV := by
      intro i' xB xD xn xo xc xl oc xu xa pk xw en cn cb xr cv kd na nb se fn tg tn cT cB wN wF wB pF pS bo wV hi' R'
      rw [nI_1]
      exact ih (r + 1) i' (by omega) (by omega) R'
    refine br_f (nI_nlt (a := L) (b := r) (by omega) (by omega)) (br_c (fun _ => l_93 hL (by omega) (Nat.le_refl _) R hJ) (fun _ => br_c (fun _ => h) (fun _ => l_93 hL (by omega) (Nat.le_refl _) R hJ)))
end
theorem x_initM {post : St2 → Prop} {p0 p1 : Int32} {B D : Nat} (hB : ∀ A : Int32 → Prop, A (nI B) → ((1 ≤ p0 → ((p0 ≤ nI 64 → A p0) ∧ (¬ p0 ≤ nI 64 → A (nI 64)))) ∧ (¬ 1 ≤ p0 → A 1))) (hD : ∀ A : Int32 → Prop, A (nI D) → ((1 ≤ p1 → ((p1 ≤ nI 8 → A p1) ∧ (¬ p1 ≤ nI 8 → A (nI 8)))) ∧ (¬ 1 ≤ p1 → A 1))) (h : ∀ u, dm_XR B D u → post u) (b1 : 1 ≤ B) (b2 : B ≤ 64) (d1 : 1 ≤ D) (d2 : D ≤ 8) : wpX_init post 16 2156 (0, 0, 0, 0, 0, 0, 0, 0, 0, 0, 0, 0, 0, 0, 0, 0) p0 p1 := by
  have xB : ∀ post : Int32 → Prop, post (nI B) → wpX_clamp post () p0 64 := fun post h => hB post h
  have xD : ∀ post : Int32 → Prop, post (nI D) → wpX_clamp post () p1 8 := fun post h => hD post h
  unfold wpX_init
  refine ⟨by decide, by decide, by decide, by decide, by decide, by decide, by decide, by decide, by decide, by decide, by decide, by decide, by decide, by decide, by decide, by decide, by decide, by decide, by decide, by decide, by decide, by decide, by decide, by decide, by decide, by decide, by decide, by decide, by decide, by decide, by decide, by decide, ?_⟩
  refine xB _ (xD _ ?_)
  unfold wpX_reset
  exact h _ ⟨0, 0, 0, rfl, rfl, rfl, rfl, rfl, rfl, Nat.le_refl _, Nat.zero_le _, Nat.zero_le _, fun g => absurd g (by decide), fun g => absurd g (by decide), b1, b2, d1, d2, dm_Pg0 _ _ _, Or.inl ⟨rfl, rfl, rfl⟩⟩
theorem i_vc (xs : Nat → Int32) (L : Nat) (hL : L ≤ 260) : wpL_law (fun r => r = 1) L xs := by
  unfold wpL_law
  refine l_cell (i := 0) hL (by omega) (fun r1 => l_mod (by decide) (fun r2 => ?_))
  intro x1 e1
  refine l_cell (i := 1) hL (by omega) (fun r3 => l_mod (by decide) (fun r4 => ?_))
  intro x2 e2
  obtain ⟨B, b1, b2, hB⟩ := dm_clx x1 64 (by omega) (by omega)
  obtain ⟨D, d1, d2, hD⟩ := dm_clx x2 8 (by omega) (by omega)
  have lB : ∀ post : Int32 → Prop, post (nI B) → wpL_clamp post () x1 1 64 := fun post h => hB post h
  have lD : ∀ post : Int32 → Prop, post (nI D) → wpL_clamp post () x2 1 8 := fun post h => hD post h
  refine lB _ (lD _ ⟨16, 2156, by decide, by decide, ?_⟩)
  refine x_initM hB hD (fun u R => ?_) b1 b2 d1 d2
  obtain ⟨xB, xD, xn, xo, xc, xl, oc, xu, xa, pk, xr, xw, en, cn, cb, cv, kd, na, nb, se, fn, tg, tn, pF, pS, cT, cB, bo, wN, wF, wB, wV⟩ := u
  exact l_ok R (br_f (by decide) ⟨L + 1 + 1, l_74 (post := fun r => r = 1) hL rfl (L + 1) 0 2 (by omega) (by omega) R⟩)
