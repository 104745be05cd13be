/-! compile, lambdaCount, lambdaNode, freeVars -/
section
variable {yB yD yc yo yu ya yp yr yh ye ys er rt : Int32} {vK vA vB eN eV eX fN fS fE fV : Nat → Int32} {kd na nb : Nat → Int32} {n : Nat}
theorem y_cmp20 {post : Int32 → SY → Prop} (P : dm_Pg kd na nb n) (T : dm_Tr kd n) (h0 : (∀ v, v < n → kd v = 2 → ¬ dm_UB kd na nb n v 0 (na v)) → post 0 (yB, yD, nI n, 1, yo, yu, ya, yp, yr, yh, ye, ys, er, rt, kd, na, nb, vK, vA, vB, eN, eV, eX, fN, fS, fE, fV)) (h6 : (∃ v, v < n ∧ kd v = 2 ∧ dm_UB kd na nb n v 0 (na v)) → post 6 (yB, yD, nI n, yc, yo, yu, ya, yp, yr, yh, ye, ys, er, rt, kd, na, nb, vK, vA, vB, eN, eV, eX, fN, fS, fE, fV)) : ∀ d k, k + d = n → (∀ v, v < k → kd v = 2 → ¬ dm_UB kd na nb n v 0 (na v)) → wY_compile_20 post yB yD (nI n) yc yo yu ya yp yr yh ye ys er rt kd na nb vK vA vB eN eV eX fN fS fE fV (d + 1) (nI k) := by
  have hn := P.1
  intro d
  induction d with
  | zero =>
    intro k hk h
    have e : k = n := by omega
    subst e
    exact br_t (nI_le (Nat.le_refl _) (by omega)) (h0 h)
  | succ d ih =>
    intro k hk h
    refine br_f (nI_ge (by omega) (by omega)) ⟨vp_in_nI (by omega) (by omega), ?_⟩
    rw [nI_clamp (by omega)]
    by_cases k2 : kd k = 2
    · refine br_t k2 (y_bound P T (by omega) (dm_Tr_pos T) (Or.inl ⟨rfl, rfl⟩) (fun hU => ?_) (fun hU => ?_))
      · refine br_f (by decide) (nm_r (nI_1 k) (ih (k + 1) (by omega) (fun v hv hv2 => ?_)))
        rcases Nat.eq_or_lt_of_le (show v ≤ k by omega) with z | z
        · subst z
          exact hU
        · exact h v z hv2
      · exact br_t rfl (h6 ⟨k, by omega, k2, hU⟩)
    · refine br_f k2 (nm_r (nI_1 k) (ih (k + 1) (by omega) (fun v hv hv2 => ?_)))
      rcases Nat.eq_or_lt_of_le (show v ≤ k by omega) with z | z
      · subst z
        exact absurd hv2 k2
      · exact h v z hv2
theorem y_comp5 {post : Int32 → SY → Prop} (P : dm_Pg kd na nb n) (e : ¬ dm_O kd n = 0) (h : post 5 (yB, yD, nI n, 0, yo, yu, ya, yp, yr, yh, ye, ys, er, rt, kd, na, nb, vK, vA, vB, eN, eV, eX, fN, fS, fE, fV)) : wpY_compile post (yB, yD, nI n, 0, yo, yu, ya, yp, yr, yh, ye, ys, er, rt, kd, na, nb, vK, vA, vB, eN, eV, eX, fN, fS, fE, fV) := by
  unfold wpY_compile
  exact br_t rfl (y_isC P (fun g => absurd g e) (fun _ => br_t rfl h))
theorem y_comp {post : Int32 → SY → Prop} (P : dm_Pg kd na nb n) (T : dm_Tr kd n) (h0 : (∀ v, v < n → kd v = 2 → ¬ dm_UB kd na nb n v 0 (na v)) → post 0 (yB, yD, nI n, 1, yo, yu, ya, yp, yr, yh, ye, ys, er, rt, kd, na, nb, vK, vA, vB, eN, eV, eX, fN, fS, fE, fV)) (h6 : (∃ v, v < n ∧ kd v = 2 ∧ dm_UB kd na nb n v 0 (na v)) → post 6 (yB, yD, nI n, 0, yo, yu, ya, yp, yr, yh, ye, ys, er, rt, kd, na, nb, vK, vA, vB, eN, eV, eX, fN, fS, fE, fV)) : wpY_compile post (yB, yD, nI n, 0, yo, yu, ya, yp, yr, yh, ye, ys, er, rt, kd, na, nb, vK, vA, vB, eN, eV, eX, fN, fS, fE, fV) := by
  unfold wpY_compile
  refine br_t rfl (y_isC P (fun _ => br_f (by decide) ⟨n + 1, ?_⟩) (fun g => absurd T.2 g))
  exact y_cmp20 P T h0 h6 n 0 (by omega) (fun v hv => absurd hv (Nat.not_lt_zero v))
theorem y_isL {post : Int32 → Prop} {k : Nat} (hk : k < 33) (h1 : (kd k = 13 ∨ kd k = 15) → post 1) (h0 : ¬ (kd k = 13 ∨ kd k = 15) → post 0) : wpY_isLambda post (yB, yD, nI n, yc, yo, yu, ya, yp, yr, yh, ye, ys, er, rt, kd, na, nb, vK, vA, vB, eN, eV, eX, fN, fS, fE, fV) (nI k) := by
  have hin : vp_in (nI k) 33 := vp_in_nI (by omega) (by omega)
  refine ⟨hin, ?_⟩
  rw [nI_clamp (by omega)]
  by_cases k13 : kd k = 13
  · exact br_t k13 (h1 (Or.inl k13))
  refine br_f k13 ⟨hin, ?_⟩
  by_cases k15 : kd k = 15
  · exact br_t k15 (h1 (Or.inr k15))
  · exact br_f k15 (h0 (fun z => z.elim k13 k15))
theorem y_lc13 {post : Int32 → Prop} (hn : n ≤ 32) (h : post (nI (dm_cnt kd n))) : ∀ d k, k + d = n → wY_lambdaCount_13 post yB yD (nI n) yc yo yu ya yp yr yh ye ys er rt kd na nb vK vA vB eN eV eX fN fS fE fV (d + 1) (nI (dm_cnt kd k)) (nI k) := by
  intro d
  induction d with
  | zero =>
    intro k hk
    have e : k = n := by omega
    subst e
    exact br_t (nI_le (Nat.le_refl _) (by omega)) h
  | succ d ih =>
    intro k hk
    refine br_f (nI_ge (by omega) (by omega)) (y_isL (by omega) (fun z => ?_) (fun z => ?_))
    · refine br_f (by decide) (nm_r (nI_1 _) (nm_r (nI_1 k) ?_))
      rw [← dm_cnt_t z]
      exact ih (k + 1) (by omega)
    · refine br_t rfl (nm_r (nI_1 k) ?_)
      rw [← dm_cnt_f z]
      exact ih (k + 1) (by omega)
theorem y_ln17 {post : Int32 → Prop} {t : Nat} (hn : n ≤ 32) (ht : t < 2 ^ 31) (h1 : ∀ i, i < n → (kd i = 13 ∨ kd i = 15) → dm_cnt kd i = t → post (nI i)) (h0 : dm_cnt kd n ≤ t → post (-1)) : ∀ d k, k + d = n → dm_cnt kd k ≤ t → wY_lambdaNode_17 post (nI t) yB yD (nI n) yc yo yu ya yp yr yh ye ys er rt kd na nb vK vA vB eN eV eX fN fS fE fV (d + 1) (nI (dm_cnt kd k)) (nI k) := by
  intro d
  induction d with
  | zero =>
    intro k hk hc
    have e : k = n := by omega
    subst e
    exact br_t (nI_le (Nat.le_refl _) (by omega)) (h0 hc)
  | succ d ih =>
    intro k hk hc
    have hcl := dm_cnt_le kd k
    refine br_f (nI_ge (by omega) (by omega)) (y_isL (by omega) (fun z => ?_) (fun z => ?_))
    · refine br_f (by decide) ?_
      by_cases e : dm_cnt kd k = t
      · exact br_t (by rw [e]) (h1 k (by omega) z e)
      · refine br_f (fun w => e ((nI_eq (by omega) ht).mp w)) (nm_r (nI_1 _) (nm_r (nI_1 k) ?_))
        rw [← dm_cnt_t z]
        exact ih (k + 1) (by omega) (by rw [dm_cnt_t z]; omega)
    · refine br_t rfl (nm_r (nI_1 k) ?_)
      rw [← dm_cnt_f z]
      exact ih (k + 1) (by omega) (by rw [dm_cnt_f z]; omega)
theorem y_ln {post : Int32 → Prop} {t : Nat} (hn : n ≤ 32) (ht : t < 2 ^ 31) (h1 : ∀ i, i < n → (kd i = 13 ∨ kd i = 15) → dm_cnt kd i = t → post (nI i)) (h0 : dm_cnt kd n ≤ t → post (-1)) : wpY_lambdaNode post (yB, yD, nI n, 1, yo, yu, ya, yp, yr, yh, ye, ys, er, rt, kd, na, nb, vK, vA, vB, eN, eV, eX, fN, fS, fE, fV) (nI t) := by
  refine br_f (by decide) (br_t (nI_pos' ht) ⟨n + 1, ?_⟩)
  exact y_ln17 hn ht h1 h0 n 0 (by omega) (Nat.zero_le _)
theorem y_fv29 {post : Int32 → Prop} {l : Nat} (P : dm_Pg kd na nb n) (T : dm_Tr kd n) (hl : l < n) (hl1 : l + 1 < n) (ha : 0 < dm_ar (kd l)) (h : ∀ w, (∀ x, x < 32 → (bt w x = true ↔ ∃ v, l + 1 ≤ v ∧ v < dm_E kd (l + 1) ∧ kd v = 2 ∧ na v = nI x ∧ dm_UB kd na nb n v l (nI x))) → post w) :
    ∀ d k w, k + d = dm_E kd (l + 1) → l + 1 ≤ k → (∀ x, x < 32 → (bt w x = true ↔ ∃ v, l + 1 ≤ v ∧ v < k ∧ kd v = 2 ∧ na v = nI x ∧ dm_UB kd na nb n v l (nI x))) → wY_freeVars_29 post (nI l) (nI (dm_E kd (l + 1))) yB yD (nI n) yc yo yu ya yp yr yh ye ys er rt kd na nb vK vA vB eN eV eX fN fS fE fV (d + 1) w (nI k) := by
  have hn := P.1
  have hE := dm_E_le T hl1
  have hin := dm_ch_in T hl ha
  rw [dm_ch0] at hin
  intro d
  induction d with
  | zero =>
    intro k w hk hk2 hw
    have e : k = dm_E kd (l + 1) := by omega
    subst e
    exact br_t (nI_le (Nat.le_refl _) (by omega)) (h w hw)
  | succ d ih =>
    intro k w hk hk2 hw
    refine br_f (nI_ge (by omega) (by omega)) (br_f (nI_ge (by omega) (by omega)) ⟨vp_in_nI (by omega) (by omega), ?_⟩)
    rw [nI_clamp (by omega)]
    have step : ∀ Q : Prop, (¬ Q → ∀ x, ¬ (kd k = 2 ∧ na k = nI x ∧ dm_UB kd na nb n k l (nI x))) → ¬ Q → ∀ x, x < 32 → (bt w x = true ↔ ∃ v, l + 1 ≤ v ∧ v < k + 1 ∧ kd v = 2 ∧ na v = nI x ∧ dm_UB kd na nb n v l (nI x)) := by
      intro Q hQ nQ x hx
      rw [hw x hx]
      constructor
      · rintro ⟨v, g1, g2, g3⟩
        exact ⟨v, g1, by omega, g3⟩
      · rintro ⟨v, g1, g2, g3⟩
        rcases Nat.eq_or_lt_of_le (show v ≤ k by omega) with z | z
        · subst z
          exact absurd g3 (hQ nQ x)
        · exact ⟨v, g1, z, g3⟩
    by_cases k2 : kd k = 2
    · obtain ⟨y, hy, ey⟩ := (P.2.2 k (by omega)).2.1 (Or.inl k2)
      refine br_t k2 (y_bound P T (by omega) hl (Or.inr ⟨rfl, by omega, by omega⟩) (fun hU => ?_) (fun hU => ?_))
      · refine br_f (by decide) (nm_r (nI_1 k) (ih (k + 1) w (by omega) (by omega) (step False (fun _ x g => ?_) (fun z => z))))
        exact hU (g.2.1 ▸ g.2.2)
      · refine br_t rfl ⟨vp_in_nI (by omega) (by omega), ?_⟩
        refine nm_e (nm_r (nI_1 k) (ih (k + 1) _ (by omega) (by omega) (fun x hx => ?_)))
        rw [b_or, Bool.or_eq_true, hw x hx, ey, dm_one y hy x hx]
        constructor
        · rintro (⟨v, g1, g2, g3⟩ | g)
          · exact ⟨v, g1, by omega, g3⟩
          · have exy := of_decide_eq_true g
            subst exy
            exact ⟨k, hk2, by omega, k2, ey, ey ▸ hU⟩
        · rintro ⟨v, g1, g2, g3, g4, g5⟩
          rcases Nat.eq_or_lt_of_le (show v ≤ k by omega) with z | z
          · subst z
            rw [ey] at g4
            exact Or.inr (decide_eq_true ((dm_nIe hx (by omega)).mp g4))
          · exact Or.inl ⟨v, g1, z, g3, g4, g5⟩
    · exact br_f k2 (nm_r (nI_1 k) (ih (k + 1) w (by omega) (by omega) (step False (fun _ x g => k2 g.1) (fun z => z))))
theorem y_fv0 {post : Int32 → Prop} {t : Nat} (hn : n ≤ 32) (ht : t < 2 ^ 31) (g : dm_cnt kd n ≤ t) (h : post (-1)) : wpY_freeVars post (yB, yD, nI n, 1, yo, yu, ya, yp, yr, yh, ye, ys, er, rt, kd, na, nb, vK, vA, vB, eN, eV, eX, fN, fS, fE, fV) (nI t) := by
  unfold wpY_freeVars
  refine y_ln hn ht (fun i hi hl hc => ?_) (fun _ => br_f (by decide) h)
  have := dm_cnt_lt hi hl
  omega
theorem y_fv1 {post : Int32 → Prop} {t l : Nat} (P : dm_Pg kd na nb n) (T : dm_Tr kd n) (ht : t < 2 ^ 31) (hl : l < n) (hll : kd l = 13 ∨ kd l = 15) (hlc : dm_cnt kd l = t) (h : ∀ w, (∀ x, x < 32 → (bt w x = true ↔ ∃ v, l + 1 ≤ v ∧ v < dm_E kd (l + 1) ∧ kd v = 2 ∧ na v = nI x ∧ dm_UB kd na nb n v l (nI x))) → post w) : wpY_freeVars post (yB, yD, nI n, 1, yo, yu, ya, yp, yr, yh, ye, ys, er, rt, kd, na, nb, vK, vA, vB, eN, eV, eX, fN, fS, fE, fV) (nI t) := by
  have hn := P.1
  have ha : 0 < dm_ar (kd l) := by
    rcases hll with z | z <;> rw [z] <;> decide
  have hl1 := dm_ch_lt T hl (c := 0) ha
  rw [dm_ch0] at hl1
  have hcl := dm_cnt_lt hl hll
  unfold wpY_freeVars
  refine y_ln hn ht (fun i hi hil hc => ?_) (fun z => absurd z (by omega))
  have eil : i = l := by
    rcases Nat.lt_trichotomy i l with z | z | z
    · have := dm_cnt_lt z hil
      omega
    · exact z
    · have := dm_cnt_lt z hll
      omega
  subst eil
  refine br_t (nI_pos' (by omega)) (nm_r (nI_1 i) (y_sub P T hl1 ⟨dm_E kd (i + 1) - (i + 1) + 1, ?_⟩))
  have hgt := dm_E_gt T hl1
  refine y_fv29 P T hi hl1 ha h (dm_E kd (i + 1) - (i + 1)) (i + 1) 0 (by omega) (Nat.le_refl _) (fun x hx => ?_)
  rw [b_0]
  constructor
  · intro z
    exact absurd z (by decide)
  · rintro ⟨v, g1, g2, _⟩
    omega
theorem y_fvn {post : Int32 → Prop} {t : Int32} (h : post (-1)) : wpY_freeVars post (yB, yD, nI n, 0, yo, yu, ya, yp, yr, yh, ye, ys, er, rt, kd, na, nb, vK, vA, vB, eN, eV, eX, fN, fS, fE, fV) t := by
  unfold wpY_freeVars
  exact br_t rfl (br_f (by decide) h)
theorem y_fvm {post : Int32 → Prop} {t : Int32} (ht : t < 0) (h : post (-1)) : wpY_freeVars post (yB, yD, nI n, 1, yo, yu, ya, yp, yr, yh, ye, ys, er, rt, kd, na, nb, vK, vA, vB, eN, eV, eX, fN, fS, fE, fV) t := by
  unfold wpY_freeVars
  exact br_f (by decide) (br_f (Int32.not_le.mpr ht) (br_f (by decide) h))
end
theorem i_vc_compile {k : Nat} {u : SX} {v : SY} (I : i_Rel k u v) (hk : k + 4 ≤ 2050) : wpX_compile (fun r u' => wpY_compile (fun r' v' => r' = r ∧ i_Rel (k + 4) u' v') v) u := by
  have J := I
  obtain ⟨xB, xD, xn, xo, xc, xl, oc, xu, xa, pk, xr, xw, en, cn, cb, cv, kd, na, nb, se, fn, tg, tn, pF, pS, cT, cB, bo, wN, wF, wB, wV⟩ := u
  obtain ⟨yB, yD, yn, yc, yo, yu, ya, yp, yr, yh, ye, ys, er, rt, yk, ym, yb, vK, vA, vB, eN, eV, eX, fN, fS, fE, fV⟩ := v
  obtain ⟨B, D, n, rfl, rfl, rfl, rfl, rfl, rfl, rfl, rfl, rfl, rfl, rfl, rfl, rfl, rfl, b1, b2, d1, d2, P, R⟩ := I
  have hb := dm_O_b yk n
  have hn := P.1
  rcases R with ⟨rfl, rfl, rfl, rfl⟩ | ⟨rfl, rfl, C, R⟩
  · refine br_t rfl ?_
    by_cases e : dm_O yk n = 0
    · have T : dm_Tr yk n := ⟨P.2.1, e⟩
      refine br_t (by rw [e]; rfl) (x_ana P T (fun se' fn' hse F => ?_))
      have hpos := dm_Tr_pos T
      have hE0 := dm_E_0 T
      by_cases f0 : fn' 0 = 0
      · refine br_t f0 (x_tag P (fun tg' tn' ht => y_comp P T (fun _ => ⟨rfl, ?_⟩) (fun z => ?_)))
        · exact ⟨B, D, n, rfl, rfl, rfl, rfl, rfl, rfl, rfl, rfl, rfl, rfl, rfl, rfl, rfl, rfl, b1, b2, d1, d2, P, Or.inr ⟨rfl, rfl, ⟨e, hse, F, f0, ht⟩, Or.inl ⟨rfl, rfl⟩⟩⟩
        · exfalso
          obtain ⟨w, w1, w2, w3⟩ := z
          obtain ⟨y, hy, ey⟩ := (P.2.2 w w1).2.1 (Or.inl w2)
          have := (dm_FN_iff T F hpos (x := y) (by omega)).mpr ⟨w, by omega, by omega, w2, ey, ey ▸ w3⟩
          rw [f0, b_0] at this
          exact absurd this (by decide)
      · refine br_f f0 (y_comp P T (fun z => ?_) (fun _ => ⟨rfl, ?_⟩))
        · exfalso
          apply f0
          apply b_ext
          intro x hx
          rw [b_0]
          cases hbt : bt (fn' 0) x with
          | false => rfl
          | true =>
            obtain ⟨w, w1, w2, w3, w4, w5⟩ := (dm_FN_iff T F hpos hx).mp hbt
            exact absurd (w4 ▸ w5) (z w (by omega) w3)
        · exact ⟨B, D, n, rfl, rfl, rfl, rfl, rfl, rfl, rfl, rfl, rfl, rfl, rfl, rfl, rfl, rfl, b1, b2, d1, d2, P, Or.inl ⟨rfl, rfl, rfl, rfl⟩⟩
    · exact br_f (nI_ne0 (by omega) (by omega)) (y_comp5 P e ⟨rfl, J⟩)
  · exact br_f (by decide) (br_f (by decide) ⟨rfl, J⟩)
theorem i_vc_lambdaCount {k : Nat} {u : SX} {v : SY} (I : i_Rel k u v) (hk : k + 4 ≤ 2050) : wpX_lambdaCount (fun r => wpY_lambdaCount (fun r' => r' = r ∧ i_Rel (k + 4) u v) v) u := by
  have J := I
  obtain ⟨xB, xD, xn, xo, xc, xl, oc, xu, xa, pk, xr, xw, en, cn, cb, cv, kd, na, nb, se, fn, tg, tn, pF, pS, cT, cB, bo, wN, wF, wB, wV⟩ := u
  obtain ⟨yB, yD, yn, yc, yo, yu, ya, yp, yr, yh, ye, ys, er, rt, yk, ym, yb, vK, vA, vB, eN, eV, eX, fN, fS, fE, fV⟩ := v
  obtain ⟨B, D, n, rfl, rfl, rfl, rfl, rfl, rfl, rfl, rfl, rfl, rfl, rfl, rfl, rfl, rfl, b1, b2, d1, d2, P, R⟩ := I
  have hn := P.1
  rcases R with ⟨rfl, rfl, rfl, rfl⟩ | ⟨rfl, rfl, C, R⟩
  · exact br_t rfl ⟨rfl, J⟩
  · exact br_f (by decide) ⟨n + 1, y_lc13 hn ⟨rfl, J⟩ n 0 (by omega)⟩
theorem i_vc_lambdaNode {k : Nat} {u : SX} {v : SY} (I : i_Rel k u v) (hk : k + 4 ≤ 2050) (v1 : Int32) : wpX_lambdaNode (fun r => wpY_lambdaNode (fun r' => r' = r ∧ i_Rel (k + 4) u v) v v1) u v1 := by
  have J := I
  obtain ⟨xB, xD, xn, xo, xc, xl, oc, xu, xa, pk, xr, xw, en, cn, cb, cv, kd, na, nb, se, fn, tg, tn, pF, pS, cT, cB, bo, wN, wF, wB, wV⟩ := u
  obtain ⟨yB, yD, yn, yc, yo, yu, ya, yp, yr, yh, ye, ys, er, rt, yk, ym, yb, vK, vA, vB, eN, eV, eX, fN, fS, fE, fV⟩ := v
  obtain ⟨B, D, n, rfl, rfl, rfl, rfl, rfl, rfl, rfl, rfl, rfl, rfl, rfl, rfl, rfl, rfl, b1, b2, d1, d2, P, R⟩ := I
  have hn := P.1
  have hcl := dm_cnt_le yk n
  rcases R with ⟨rfl, rfl, rfl, rfl⟩ | ⟨rfl, rfl, C, R⟩
  · by_cases h : v1 < 0
    · exact br_t h (br_t rfl ⟨rfl, J⟩)
    · exact br_f h (br_f h (br_t rfl ⟨rfl, J⟩))
  · by_cases h : v1 < 0
    · exact br_t h (br_f (by decide) (br_f (Int32.not_le.mpr h) ⟨rfl, J⟩))
    · refine br_f h ?_
      obtain ⟨t, ht, rfl⟩ := nI_of h
      by_cases g : t < dm_cnt yk n
      · refine br_t (nI_lt g (by omega)) ⟨vp_in_nI (by omega) (by omega), ?_⟩
        rw [nI_clamp ht]
        refine y_ln hn ht (fun i hi hl hc => ⟨?_, J⟩) (fun z => by omega)
        rw [← hc]
        exact ((C.2.2.2.2 i hi hl).2).symm
      · refine br_f (nI_nlt (by omega) ht) (y_ln hn ht (fun i hi hl hc => ?_) (fun _ => ⟨rfl, J⟩))
        have := dm_cnt_lt hi hl
        omega
theorem i_vc_freeVars {k : Nat} {u : SX} {v : SY} (I : i_Rel k u v) (hk : k + 4 ≤ 2050) (v1 : Int32) : wpX_freeVars (fun r => wpY_freeVars (fun r' => r' = r ∧ i_Rel (k + 4) u v) v v1) u v1 := by
  have J := I
  obtain ⟨xB, xD, xn, xo, xc, xl, oc, xu, xa, pk, xr, xw, en, cn, cb, cv, kd, na, nb, se, fn, tg, tn, pF, pS, cT, cB, bo, wN, wF, wB, wV⟩ := u
  obtain ⟨yB, yD, yn, yc, yo, yu, ya, yp, yr, yh, ye, ys, er, rt, yk, ym, yb, vK, vA, vB, eN, eV, eX, fN, fS, fE, fV⟩ := v
  obtain ⟨B, D, n, rfl, rfl, rfl, rfl, rfl, rfl, rfl, rfl, rfl, rfl, rfl, rfl, rfl, rfl, b1, b2, d1, d2, P, R⟩ := I
  have hn := P.1
  have hcl := dm_cnt_le yk n
  rcases R with ⟨rfl, rfl, rfl, rfl⟩ | ⟨rfl, rfl, C, R⟩
  · by_cases h : v1 < 0
    · exact br_t h (y_fvn ⟨rfl, J⟩)
    · exact br_f h (br_f h (y_fvn ⟨rfl, J⟩))
  · have T : dm_Tr yk n := ⟨P.2.1, C.1⟩
    by_cases h : v1 < 0
    · exact br_t h (y_fvm h ⟨rfl, J⟩)
    · refine br_f h ?_
      obtain ⟨t, ht, rfl⟩ := nI_of h
      by_cases g : t < dm_cnt yk n
      · refine br_t (nI_lt g (by omega)) ⟨vp_in_nI (by omega) (by omega), ?_⟩
        rw [nI_clamp ht]
        have ex : ∃ i, i < n ∧ (yk i = 13 ∨ yk i = 15) ∧ dm_cnt yk i = t := dm_cnt_ex n t g
        obtain ⟨l, hl, hll, hlc⟩ := ex
        have el : tn t = nI l := by
          rw [← hlc]
          exact (C.2.2.2.2 l hl hll).2
        rw [el]
        have ha : 0 < dm_ar (yk l) := by
          rcases hll with z | z <;> rw [z] <;> decide
        have hl1 := dm_ch_lt T hl (c := 0) ha
        rw [dm_ch0] at hl1
        refine x_fl (by omega) (y_fv1 P T ht hl hll hlc (fun w hw => ⟨?_, J⟩))
        apply b_ext
        intro x hx
        rw [Bool.eq_iff_iff, hw x hx, dm_fl_b P hl hll hx, dm_FN_iff T C.2.2.1 hl1 hx]
        constructor
        · rintro ⟨v, g1, g2, g3, g4, g5⟩
          obtain ⟨u1, u2⟩ := dm_UB_dn T hl ha g1 g2 g5
          exact ⟨⟨v, g1, g2, g3, g4, u1⟩, u2⟩
        · rintro ⟨⟨v, g1, g2, g3, g4, g5⟩, g6⟩
          exact ⟨v, g1, g2, g3, g4, dm_UB_up T hl ha g1 g2 g5 g6⟩
      · exact br_f (nI_nlt (by omega) ht) (y_fv0 hn ht (by omega) ⟨rfl, J⟩)
