/-! resultKind, resultValue -/
def dm_RV (hp : Nat) (m : Nat → Int64) (xv : Int64) (yv : Int32) : Prop := (xv = 0 ∧ yv = -1) ∨ ∃ c, c < hp ∧ xv = m c ∧ yv = nI c
section
variable {kd : Nat → Int32} {n c : Nat} {m : Nat → Int64} {vK vA vB : Nat → Int32} {pF pS : Nat → Int64} {cT : Nat → Int32}
theorem dm_RC_k (h : dm_RC kd n m vK vA vB pF pS cT c) : dm_kof (m c) = vK c := by
  rcases h with ⟨h1, h2⟩ | ⟨h1, p, a, b, h2, h3, h4, h5, h6⟩ | ⟨h1, p, l, h2, h3, h4, h5, h6⟩
  · rw [h1, h2, dm_val_k]
  · rw [h1, h5, dm_val_k]
  · rw [h1, h4, dm_val_k]
end
section
variable {xB xD xn xo xc xl oc xu xa pk xw en cn cb : Int32} {xr cv : Int64} {na nb se fn tg tn cT cB wN wF wB : Nat → Int32} {pF pS bo wV : Nat → Int64} {yB yD yc yo yu ya yp yr yh ye ys er rt : Int32} {vK vA vB eN eV eX fN fS fE fV : Nat → Int32} {kd : Nat → Int32} {ym yb : Nat → Int32} {n hp : Nat} {m : Nat → Int64}
theorem x_w0 {post : Int64 → Prop} {x2 : Int32} {t q f : Nat} (ht : t ≤ 16) (hq : q ≤ t) (h : post 0) : wX_walkResult_20 post (nI t) x2 xB xD xn xo xc xl oc xu xa pk xr xw en cn cb cv kd na nb se fn tg tn pF pS cT cB bo wN wF wB wV (f + 1) 0 (nI q) := by
  by_cases e : t ≤ q
  · exact br_t (nI_le e (by omega)) h
  · exact br_f (nI_ge (by omega) (by omega)) (br_f (by decide) h)
theorem dm_wlk {x2 : Int32} {t : Nat} (ht : t ≤ 16) (hhp : hp ≤ 4096) (R : ∀ c, c < hp → dm_RC kd n m vK vA vB pF pS cT c) : ∀ d q c, q + d = t → c < hp → ∃ xv yv, dm_RV hp m xv yv ∧ (∀ post : Int64 → Prop, post xv → wX_walkResult_20 post (nI t) x2 xB xD xn xo xc xl oc xu xa pk xr xw en cn cb cv kd na nb se fn tg tn pF pS cT cB bo wN wF wB wV (d + 1) (m c) (nI q)) ∧ (∀ post : Int32 → Prop, post yv → wY_walk_27 post (nI t) x2 yB yD (nI n) yc yo yu ya yp yr yh ye ys er rt kd ym yb vK vA vB eN eV eX fN fS fE fV (d + 1) (nI c) (nI q)) := by
  intro d
  induction d with
  | zero =>
    intro q c hq hc
    have e : q = t := by omega
    subst e
    exact ⟨m c, nI c, Or.inr ⟨c, hc, rfl, rfl⟩, fun post h => br_t (nI_le (Nat.le_refl _) (by omega)) h, fun post h => br_t (nI_le (Nat.le_refl _) (by omega)) h⟩
  | succ d ih =>
    intro q c hq hc
    have hc4 : c < 4096 := by omega
    have hk := dm_RC_k (R c hc)
    have hg : ¬ nI t ≤ nI q := nI_ge (by omega) (by omega)
    by_cases k2 : vK c = 2
    · rcases R c hc with ⟨h1, _⟩ | ⟨h1, p, a, b, h2, h3, h4, h5, h6, h7, h8, h9⟩ | ⟨h1, _⟩
      · rw [k2] at h1
        exact absurd h1 (by decide)
      · have ed : (m c).toInt32 = nI p := by
          rw [h5, dm_val_d]
        have ep1 : ∀ g : Nat → Int64, g (m c).toInt32.toNatClampNeg = g p := by
          intro g
          rw [ed, nI_clamp (by omega)]
        have hin : vp_in (m c).toInt32 65 := by
          rw [ed]
          exact dm_w65 (by omega)
        obtain ⟨xa1, ya1, r1, r2, r3⟩ := ih (q + 1) a (by omega) (by omega)
        obtain ⟨xb1, yb1, s1, s2, s3⟩ := ih (q + 1) b (by omega) (by omega)
        by_cases z : ((x2.toUInt32 >>> ((nI q).toUInt32 &&& Int32.toUInt32 31)).toInt32 &&& 1) = 0
        · refine ⟨xa1, ya1, r1, fun post h => ?_, fun post h => ?_⟩
          · refine br_f hg (br_t (by rw [← k2]; exact hk) (br_t z ⟨hin, nm_r ?_ (nm_r (nI_1 q) (r2 post h))⟩))
            rw [ep1 pF, h8]
          · refine br_f hg (y_kof hc4 (br_t k2 (br_t z (y_vA hc4 (nm_r (nI_1 q) ?_)))))
            rw [h6]
            exact r3 post h
        · refine ⟨xb1, yb1, s1, fun post h => ?_, fun post h => ?_⟩
          · refine br_f hg (br_t (by rw [← k2]; exact hk) (br_f z ⟨hin, nm_r ?_ (nm_r (nI_1 q) (s2 post h))⟩))
            rw [ep1 pS, h9]
          · refine br_f hg (y_kof hc4 (br_t k2 (br_f z (y_vB hc4 (nm_r (nI_1 q) ?_)))))
            rw [h7]
            exact s3 post h
      · rw [k2] at h1
        exact absurd h1 (by decide)
    · refine ⟨0, -1, Or.inl ⟨rfl, rfl⟩, fun post h => br_f hg (br_f (fun g => k2 (hk.symm.trans g)) h), fun post h => br_f hg (y_kof hc4 (br_f k2 h))⟩
theorem dm_wlk2 {v1 v2 : Int32} (R : dm_RR kd n xr yr vK vA vB pF pS cT) : ∃ (hp : Nat) (m : Nat → Int64) (xv : Int64) (yv : Int32), hp ≤ 4096 ∧ (∀ c, c < hp → dm_RC kd n m vK vA vB pF pS cT c) ∧ dm_RV hp m xv yv ∧ (∀ post : Int64 → Prop, post xv → wpX_walkResult post (xB, xD, xn, xo, xc, xl, oc, xu, xa, pk, xr, xw, en, cn, cb, cv, kd, na, nb, se, fn, tg, tn, pF, pS, cT, cB, bo, wN, wF, wB, wV) v1 v2) ∧ (∀ post : Int32 → Prop, post yv → wpY_walk post (yB, yD, nI n, yc, yo, yu, ya, yp, yr, yh, ye, ys, er, rt, kd, ym, yb, vK, vA, vB, eN, eV, eX, fN, fS, fE, fV) v1 v2) := by
  rcases R with ⟨rfl, rfl⟩ | ⟨hp, m, c, h1, h2, rfl, rfl, h3⟩
  · refine ⟨0, fun _ => 0, 0, -1, Nat.zero_le _, fun c hc => absurd hc (Nat.not_lt_zero c), Or.inl ⟨rfl, rfl⟩, fun post h => ?_, fun post h => br_t (by decide) h⟩
    by_cases g : v1 < 0
    · exact br_t g h
    · refine br_f g ?_
      obtain ⟨t, ht, rfl⟩ := nI_of g
      by_cases g2 : t ≤ 16
      · exact br_t (nI_le (b := 16) g2 (by omega)) ⟨0 + 1, x_w0 (q := 0) g2 (Nat.zero_le _) h⟩
      · exact br_f (nI_ge (a := 16) (by omega) ht) h
  · have hr : ¬ nI c < 0 := nI_pos (by omega)
    by_cases g : v1 < 0
    · exact ⟨hp, m, 0, -1, h1, h3, Or.inl ⟨rfl, rfl⟩, fun post h => br_t g h, fun post h => br_f hr (br_t g h)⟩
    · obtain ⟨t, ht, rfl⟩ := nI_of g
      by_cases g2 : t ≤ 16
      · obtain ⟨xv, yv, r1, r2, r3⟩ := dm_wlk (x2 := v2) g2 h1 h3 t 0 c (by omega) h2
        have g3 : nI t ≤ 16 := nI_le (b := 16) g2 (by omega)
        exact ⟨hp, m, xv, yv, h1, h3, r1, fun post h => br_f g (br_t g3 ⟨t + 1, r2 post h⟩), fun post h => br_f hr (br_f g (br_t g3 ⟨t + 1, r3 post h⟩))⟩
      · have g3 : ¬ nI t ≤ 16 := nI_ge (a := 16) (by omega) ht
        exact ⟨hp, m, 0, -1, h1, h3, Or.inl ⟨rfl, rfl⟩, fun post h => br_f g (br_f g3 h), fun post h => br_f hr (br_f g (br_f g3 h))⟩
theorem y_tg4 {post : Int32 → Prop} {l : Nat} (hn : n ≤ 32) (hl : l < n) (h : post (nI (dm_cnt kd l))) : ∀ d k, k + d = l → wY_tagOf_4 post (nI l) yB yD (nI n) yc yo yu ya yp yr yh ye ys er rt kd ym yb vK vA vB eN eV eX fN fS fE fV (d + 1) (nI (dm_cnt kd k)) (nI k) := by
  intro d
  induction d with
  | zero =>
    intro k hk
    have e : k = l := by omega
    subst e
    exact br_t (nI_le (Nat.le_refl _) (by omega)) h
  | succ d ih =>
    intro k hk
    refine br_f (nI_ge (by omega) (by omega)) (br_f (nI_ge (by omega) (by omega)) (y_isL (by omega) (fun z => ?_) (fun z => ?_)))
    · refine br_f (by decide) (nm_r (nI_1 _) (nm_r (nI_1 k) ?_))
      rw [← dm_cnt_t z]
      exact ih (k + 1) (by omega)
    · refine br_t rfl (nm_r (nI_1 k) ?_)
      rw [← dm_cnt_f z]
      exact ih (k + 1) (by omega)
theorem y_tg {post : Int32 → Prop} {l : Nat} (hn : n ≤ 32) (hl : l < n) (h : post (nI (dm_cnt kd l))) : wpY_tagOf post (yB, yD, nI n, yc, yo, yu, ya, yp, yr, yh, ye, ys, er, rt, kd, ym, yb, vK, vA, vB, eN, eV, eX, fN, fS, fE, fV) (nI l) :=
  ⟨l + 1, y_tg4 hn hl h l 0 (by omega)⟩
end
theorem dm_RR_of {kd na nb se fn tg tn : Nat → Int32} {n : Nat} {xc xl : Int32} {xr : Int64} {yr : Int32} {vK vA vB : Nat → Int32} {pF pS : Nat → Int64} {cT : Nat → Int32} (R : (xc = 0 ∧ xl = 0 ∧ xr = 0 ∧ yr = -1) ∨ (xc = 1 ∧ xl = nI (dm_cnt kd n) ∧ dm_Cp kd na nb se fn tg tn n ∧ dm_RR kd n xr yr vK vA vB pF pS cT)) : dm_RR kd n xr yr vK vA vB pF pS cT := by
  rcases R with ⟨_, _, h1, h2⟩ | ⟨_, _, _, h⟩
  · exact Or.inl ⟨h1, h2⟩
  · exact h
theorem i_vc_resultKind {k : Nat} {u : SX} {v : SY} (I : i_Rel k u v) (hk : k + 4 ≤ 2050) (v1 : Int32) (v2 : Int32) : wpX_resultKind (fun r => wpY_resultKind (fun r' => r' = r ∧ i_Rel (k + 4) u v) v v1 v2) u v1 v2 := by
  have J := I
  obtain ⟨xB, xD, xn, xo, xc, xl, oc, xu, xa, pk, xr, xw, en, cn, cb, cv, kd, na, nb, se, fn, tg, tn, pF, pS, cT, cB, bo, wN, wF, wB, wV⟩ := u
  obtain ⟨yB, yD, yn, yc, yo, yu, ya, yp, yr, yh, ye, ys, er, rt, yk, ym, yb, vK, vA, vB, eN, eV, eX, fN, fS, fE, fV⟩ := v
  obtain ⟨B, D, n, rfl, rfl, rfl, rfl, rfl, rfl, rfl, rfl, rfl, rfl, rfl, rfl, rfl, rfl, b1, b2, d1, d2, P, R⟩ := I
  obtain ⟨hp, m, xv, yv, h1, h2, h3, hX, hY⟩ := dm_wlk2 (v1 := v1) (v2 := v2) (dm_RR_of R)
  unfold wpX_resultKind
  refine hX _ ?_
  unfold wpX_kindOf wpY_resultKind
  refine hY _ ?_
  rcases h3 with ⟨rfl, rfl⟩ | ⟨c, hc, rfl, rfl⟩
  · exact br_f (by decide) ⟨dm_kof0.symm, J⟩
  · exact br_t (nI_pos' (by omega)) (y_kof (by omega) ⟨(dm_RC_k (h2 c hc)).symm, J⟩)
theorem i_vc_resultValue {k : Nat} {u : SX} {v : SY} (I : i_Rel k u v) (hk : k + 4 ≤ 2050) (v1 : Int32) (v2 : Int32) : wpX_resultValue (fun r => wpY_resultValue (fun r' => r' = r ∧ i_Rel (k + 4) u v) v v1 v2) u v1 v2 := by
  have J := I
  obtain ⟨xB, xD, xn, xo, xc, xl, oc, xu, xa, pk, xr, xw, en, cn, cb, cv, kd, na, nb, se, fn, tg, tn, pF, pS, cT, cB, bo, wN, wF, wB, wV⟩ := u
  obtain ⟨yB, yD, yn, yc, yo, yu, ya, yp, yr, yh, ye, ys, er, rt, yk, ym, yb, vK, vA, vB, eN, eV, eX, fN, fS, fE, fV⟩ := v
  obtain ⟨B, D, n, rfl, rfl, rfl, rfl, rfl, rfl, rfl, rfl, rfl, rfl, rfl, rfl, rfl, rfl, b1, b2, d1, d2, P, R⟩ := I
  have hn := P.1
  obtain ⟨hp, m, xv, yv, h1, h2, h3, hX, hY⟩ := dm_wlk2 (v1 := v1) (v2 := v2) (dm_RR_of R)
  have Yw : ∀ post : Int32 → Prop, (yv = -1 → post 0) → (∀ c, c < hp → yv = nI c → vK c = 1 → post (vA c)) → (∀ c, c < hp → yv = nI c → vK c = 2 → post 0) → (∀ c l, c < hp → yv = nI c → vK c = 3 → vA c = nI l → l < n → post (nI (dm_cnt yk l))) → wpY_resultValue post (nI B, nI D, nI n, yc, yo, yu, ya, yp, yr, yh, ye, ys, er, rt, yk, ym, yb, vK, vA, vB, eN, eV, eX, fN, fS, fE, fV) v1 v2 := by
    intro post p0 p1 p2 p3
    unfold wpY_resultValue
    refine hY _ ?_
    rcases h3 with ⟨_, rfl⟩ | ⟨c, hc, _, rfl⟩
    · exact br_t (by decide) (br_f (by decide) (br_f (by decide) (p0 rfl)))
    · have hc4 : c < 4096 := by omega
      refine y_kof hc4 ?_
      rcases h2 c hc with ⟨t1, _⟩ | ⟨t1, _⟩ | ⟨t1, p, l, t2, t3, t4, t5, t6⟩
      · exact br_t t1 (y_vA hc4 (p1 c hc rfl t1))
      · exact br_f (by rw [t1]; decide) (br_f (by rw [t1]; decide) (p2 c hc rfl t1))
      · refine br_f (by rw [t1]; decide) (br_t t1 (y_vA hc4 ?_))
        rw [t5]
        exact y_tg hn t3 (p3 c l hc rfl t1 t5 t3)
  unfold wpX_resultValue
  refine hX _ ?_
  rcases h3 with ⟨rfl, rfl⟩ | ⟨c, hc, rfl, rfl⟩
  · refine br_f (by decide) (br_f (by decide) (Yw _ (fun _ => ⟨rfl, J⟩) (fun c hc e => ?_) (fun c hc e => ?_) (fun c l hc e => ?_))) <;> exact absurd (e ▸ nI_pos' (n := c) (by omega) : (0 : Int32) ≤ -1) (by decide)
  · have inj : ∀ c', c' < hp → nI c = nI c' → c' = c := fun c' hc' e => ((nI_eq (by omega) (by omega)).mp e).symm
    have nm : ∀ Q : Prop, nI c = -1 → Q := fun Q e => absurd (e ▸ nI_pos' (n := c) (by omega) : (0 : Int32) ≤ -1) (by decide)
    have hkk := dm_RC_k (h2 c hc)
    rcases h2 c hc with ⟨t1, t2⟩ | ⟨t1, _⟩ | ⟨t1, p, l, t2, t3, t4, t5, t6⟩
    · refine br_t (hkk.trans t1) (Yw _ (nm _) (fun c' hc' e k1 => ?_) (fun c' hc' e k1 => ?_) (fun c' l hc' e k1 => ?_))
      · have := inj c' hc' e
        subst this
        exact ⟨by rw [t2, dm_val_d], J⟩
      · have := inj c' hc' e
        subst this
        rw [t1] at k1
        exact absurd k1 (by decide)
      · have := inj c' hc' e
        subst this
        rw [t1] at k1
        exact absurd k1 (by decide)
    · refine br_f (fun g => absurd ((hkk.trans t1).symm.trans g) (by decide)) (br_f (fun g => absurd ((hkk.trans t1).symm.trans g) (by decide)) (Yw _ (nm _) (fun c' hc' e k1 => ?_) (fun c' hc' e k1 => ⟨rfl, J⟩) (fun c' l hc' e k1 => ?_)))
      · have := inj c' hc' e
        subst this
        rw [t1] at k1
        exact absurd k1 (by decide)
      · have := inj c' hc' e
        subst this
        rw [t1] at k1
        exact absurd k1 (by decide)
    · have ed : (m c).toInt32 = nI p := by
        rw [t4, dm_val_d]
      refine br_f (fun g => absurd ((hkk.trans t1).symm.trans g) (by decide)) (br_t (hkk.trans t1) ⟨?_, ?_⟩)
      · rw [ed]
        exact dm_w65 (by omega)
      · rw [ed, nI_clamp (by omega), t6]
        refine Yw _ (nm _) (fun c' hc' e k1 => ?_) (fun c' hc' e k1 => ?_) (fun c' l' hc' e k1 e2 hl' => ⟨?_, J⟩)
        · have := inj c' hc' e
          subst this
          rw [t1] at k1
          exact absurd k1 (by decide)
        · have := inj c' hc' e
          subst this
          rw [t1] at k1
          exact absurd k1 (by decide)
        · have := inj c' hc' e
          subst this
          rw [t5] at e2
          rw [(nI_eq (by omega) (by omega)).mp e2]
