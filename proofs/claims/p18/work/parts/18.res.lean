/-! the result's walk -/
theorem dm_RC_k {kd : Nat → Int32} {n c : Nat} {m : Nat → Int64} {vK vA vB : Nat → Int32} {pF pS : Nat → Int64} {cT : Nat → Int32} (h : dm_RC kd n m vK vA vB pF pS cT c) : dm_kof (m c) = vK c := by
  rcases h with ⟨h1, h2⟩ | ⟨h1, p, a, b, h2, h3, h4, h5, h6⟩ | ⟨h1, p, l, h2, h3, h3', h4, h5, h6⟩
  · rw [h1, h2, dm_val_k]
  · rw [h1, h5, dm_val_k]
  · rw [h1, h4, dm_val_k]
section
variable {xB xD xn xo xc xl oc xu xa pk xw en cn cb : Int32} {xr cv : Int64} {kd na nb se fn tg tn cT cB wN wF wB : Nat → Int32} {pF pS bo wV : Nat → Int64} {n hp : Nat} {m : Nat → Int64} {vK vA vB : Nat → Int32}
theorem x_w0 {post : Int64 → Prop} {x2 : Int32} {t q f : Nat} (ht : t ≤ 16) (hq : q ≤ t) (h : post 0) : wX_walkResult_20 post (nI t) x2 xB xD xn xo xc xl oc xu xa pk xr xw en cn cb cv kd na nb se fn tg tn pF pS cT cB bo wN wF wB wV (f + 1) 0 (nI q) := by
  by_cases e : t ≤ q
  · exact br_t (nI_le e (by omega)) h
  · exact br_f (nI_ge (by omega) (by omega)) (br_f (by decide) h)
theorem x_wlk {x2 : Int32} {t : Nat} (ht : t ≤ 16) (R : ∀ c, c < hp → dm_RC kd n m vK vA vB pF pS cT c) : ∀ d q c, q + d = t → c < hp → ∃ xv, (xv = 0 ∨ ∃ c, c < hp ∧ xv = m c) ∧ (∀ post : Int64 → Prop, post xv → wX_walkResult_20 post (nI t) x2 xB xD xn xo xc xl oc xu xa pk xr xw en cn cb cv kd na nb se fn tg tn pF pS cT cB bo wN wF wB wV (d + 1) (m c) (nI q)) := by
  intro d
  induction d with
  | zero =>
    intro q c hq hc
    have e : q = t := by omega
    subst e
    exact ⟨m c, Or.inr ⟨c, hc, rfl⟩, fun post h => br_t (nI_le (Nat.le_refl _) (by omega)) h⟩
  | succ d ih =>
    intro q c hq hc
    have hk := dm_RC_k (R c hc)
    have hg : ¬ nI t ≤ nI q := nI_ge (by omega) (by omega)
    by_cases k2 : vK c = 2
    · rcases R c hc with ⟨h1, _⟩ | ⟨h1, p, a, b, h2, h3, h4, h5, h6, h7, h8, h9⟩ | ⟨h1, _⟩
      · rw [k2] at h1
        exact absurd h1 (by decide)
      · have ed : (m c).toInt32 = nI p := by
          rw [h5, dm_val_d]
        have ep1 : ∀ g : Nat → Int64, g (m c).toInt32.toNatClampNeg = g p := by
          intro g
          rw [ed, nI_clamp (by omega)]
        have hin : vp_in (m c).toInt32 65 := by
          rw [ed]
          exact dm_w65 (by omega)
        obtain ⟨xa1, r1, r2⟩ := ih (q + 1) a (by omega) (by omega)
        obtain ⟨xb1, s1, s2⟩ := ih (q + 1) b (by omega) (by omega)
        by_cases z : ((x2.toUInt32 >>> ((nI q).toUInt32 &&& Int32.toUInt32 31)).toInt32 &&& 1) = 0
        · refine ⟨xa1, r1, fun post h => ?_⟩
          refine br_f hg (br_t (by rw [← k2]; exact hk) (br_t z ⟨hin, nm_r ?_ (nm_r (nI_1 q) (r2 post h))⟩))
          rw [ep1 pF, h8]
        · refine ⟨xb1, s1, fun post h => ?_⟩
          refine br_f hg (br_t (by rw [← k2]; exact hk) (br_f z ⟨hin, nm_r ?_ (nm_r (nI_1 q) (s2 post h))⟩))
          rw [ep1 pS, h9]
      · rw [k2] at h1
        exact absurd h1 (by decide)
    · exact ⟨0, Or.inl rfl, fun post h => br_f hg (br_f (fun g => k2 (hk.symm.trans g)) h)⟩
theorem x_walk {v1 v2 : Int32} (R : dm_R1 kd n xr pF pS cT) : ∃ xv : Int64, (dm_kof xv = 3 → ∃ p l, p ≤ 64 ∧ l < n ∧ (kd l = 13 ∨ kd l = 15) ∧ xv.toInt32 = nI p ∧ cT p = nI (dm_cnt kd l)) ∧ (∀ post : Int64 → Prop, post xv → wpX_walkResult post (xB, xD, xn, xo, xc, xl, oc, xu, xa, pk, xr, xw, en, cn, cb, cv, kd, na, nb, se, fn, tg, tn, pF, pS, cT, cB, bo, wN, wF, wB, wV) v1 v2) := by
  have z0 : dm_kof 0 = 3 → ∃ p l, p ≤ 64 ∧ l < n ∧ (kd l = 13 ∨ kd l = 15) ∧ (0 : Int64).toInt32 = nI p ∧ cT p = nI (dm_cnt kd l) := fun g => absurd g (by decide)
  by_cases g : v1 < 0
  · exact ⟨0, z0, fun post h => br_t g h⟩
  · obtain ⟨t, ht, rfl⟩ := nI_of g
    by_cases g2 : t ≤ 16
    · have g3 : nI t ≤ 16 := nI_le (b := 16) g2 (by omega)
      rcases R with rfl | ⟨hp, m, vK, vA, vB, c, hc, rfl, h3⟩
      · exact ⟨0, z0, fun post h => br_f g (br_t g3 ⟨0 + 1, x_w0 (q := 0) g2 (Nat.zero_le _) h⟩)⟩
      · obtain ⟨xv, r1, r2⟩ := x_wlk (x2 := v2) g2 h3 t 0 c (by omega) hc
        refine ⟨xv, fun hk => ?_, fun post h => br_f g (br_t g3 ⟨t + 1, r2 post h⟩)⟩
        rcases r1 with rfl | ⟨c', hc', rfl⟩
        · exact z0 hk
        · have hkk := dm_RC_k (h3 c' hc')
          rw [hk] at hkk
          rcases h3 c' hc' with ⟨t1, _⟩ | ⟨t1, _⟩ | ⟨t1, p, l, t2, t3, t3', t4, t5, t6⟩
          · rw [t1] at hkk
            exact absurd hkk (by decide)
          · rw [t1] at hkk
            exact absurd hkk (by decide)
          · exact ⟨p, l, t2, t3, t3', by rw [t4, dm_val_d], t6⟩
    · have g3 : ¬ nI t ≤ 16 := nI_ge (a := 16) (by omega) ht
      exact ⟨0, z0, fun post h => br_f g (br_f g3 h)⟩
theorem x_kv {v1 v2 : Int32} (R : dm_R1 kd n xr pF pS cT) : ∃ kk : Int32, (∀ post : Int32 → Prop, post kk → wpX_resultKind post (xB, xD, xn, xo, xc, xl, oc, xu, xa, pk, xr, xw, en, cn, cb, cv, kd, na, nb, se, fn, tg, tn, pF, pS, cT, cB, bo, wN, wF, wB, wV) v1 v2) ∧ (kk = 3 → ∃ t, t < dm_cnt kd n ∧ ∀ post : Int32 → Prop, post (nI t) → wpX_resultValue post (xB, xD, xn, xo, xc, xl, oc, xu, xa, pk, xr, xw, en, cn, cb, cv, kd, na, nb, se, fn, tg, tn, pF, pS, cT, cB, bo, wN, wF, wB, wV) v1 v2) := by
  obtain ⟨xv, h1, h2⟩ := x_walk (v1 := v1) (v2 := v2) R
  refine ⟨dm_kof xv, fun post h => ?_, fun e => ?_⟩
  · unfold wpX_resultKind
    exact h2 _ h
  · obtain ⟨p, l, t1, t2, t3, t4, t5⟩ := h1 e
    refine ⟨dm_cnt kd l, dm_cnt_lt t2 t3, fun post h => ?_⟩
    unfold wpX_resultValue
    refine h2 _ (br_f (fun g => absurd (e.symm.trans g) (by decide)) (br_t e ⟨?_, ?_⟩))
    · rw [t4]
      exact dm_w65 (by omega)
    · rw [t4, nI_clamp (by omega), t5]
      exact h
end
