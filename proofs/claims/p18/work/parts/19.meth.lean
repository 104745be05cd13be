/-! the calls that change the object -/
theorem x_resetM {post : St2 → Prop} {u : St2} {B D : Nat} (R : dm_XR B D u) (h : ∀ u', dm_XR B D u' → post u') : wpX_reset post u := by
  obtain ⟨xB, xD, xn, xo, xc, xl, oc, xu, xa, pk, xr, xw, en, cn, cb, cv, kd, na, nb, se, fn, tg, tn, pF, pS, cT, cB, bo, wN, wF, wB, wV⟩ := u
  obtain ⟨n, q, t, rfl, rfl, rfl, rfl, rfl, rfl, h1, h2, h3, h4, h5, b1, b2, d1, d2, P, R⟩ := R
  exact h _ ⟨0, 0, 0, rfl, rfl, rfl, rfl, rfl, rfl, Nat.le_refl _, Nat.zero_le _, Nat.zero_le _, fun g => absurd g (by decide), fun g => absurd g (by decide), b1, b2, d1, d2, dm_Pg0 _ _ _, Or.inl ⟨rfl, rfl, rfl⟩⟩
theorem x_nodeM {post : Int32 → St2 → Prop} {u : St2} {B D : Nat} (R : dm_XR B D u) (h : ∀ r u', dm_XR B D u' → post r u') (v1 v2 v3 : Int32) : wpX_node post u v1 v2 v3 := by
  have J := R
  obtain ⟨xB, xD, xn, xo, xc, xl, oc, xu, xa, pk, xr, xw, en, cn, cb, cv, kd, na, nb, se, fn, tg, tn, pF, pS, cT, cB, bo, wN, wF, wB, wV⟩ := u
  obtain ⟨n, q, t, rfl, rfl, rfl, rfl, rfl, rfl, h1, h2, h3, h4, h5, b1, b2, d1, d2, P, R⟩ := R
  have hb := dm_O_b kd n
  have hn := P.1
  by_cases e : dm_O kd n = 0
  · exact br_t (by rw [e]; rfl) (h _ _ J)
  refine br_f (nI_ne0 (by omega) (by omega)) ?_
  by_cases hn2 : n < 32
  · refine br_t (nI_lt (b := 32) hn2 (by omega)) ?_
    by_cases k1 : v1 < 1
    · exact br_t k1 (h _ _ J)
    refine br_f k1 ?_
    by_cases k2 : v1 ≤ 16
    · refine br_t k2 ?_
      have hkk : dm_kk v1 := by
        have h0 : ¬ v1 < 0 := fun z => k1 (Int32.lt_trans z (by decide))
        obtain ⟨q, hq, rfl⟩ := nI_of h0
        exact ⟨q, Nat.le_of_not_lt (fun z => k1 (nI_lt (b := 1) z (by omega))), (nI_leI (b := 16) hq (by omega)).mp k2, rfl⟩
      refine x_bad (fun z => ?_) (fun z => ?_)
      · exact br_f (by decide) (h _ _ J)
      · refine br_t rfl ?_
        have hin : vp_in (nI n) 32 := vp_in_nI (by omega) (by omega)
        refine ⟨hin, ?_⟩
        rw [nI_clamp (by omega)]
        refine nm_e ⟨hin, nm_e ⟨hin, nm_e (nm_r (nI_1 n) (x_cc hkk (nm_r (dm_opn (by omega)) (h _ _ ?_))))⟩⟩
        have hc : xc = 0 ∧ xl = 0 ∧ xr = 0 := by
          rcases R with g | g
          · exact g
          · exact absurd g.2.2.1.1 e
        exact ⟨n + 1, q, t, rfl, rfl, rfl, by rw [dm_O_s], rfl, rfl, h1, h2, h3, h4, h5, b1, b2, d1, d2, dm_Pg_s P hn2 e hkk z, Or.inl hc⟩
    · exact br_f k2 (h _ _ J)
  · have e32 : n = 32 := by omega
    subst e32
    exact br_f (by decide) (h _ _ J)
theorem x_compM {post : Int32 → St2 → Prop} {u : St2} {B D : Nat} (R : dm_XR B D u) (h : ∀ r u', dm_XR B D u' → post r u') : wpX_compile post u := by
  have J := R
  obtain ⟨xB, xD, xn, xo, xc, xl, oc, xu, xa, pk, xr, xw, en, cn, cb, cv, kd, na, nb, se, fn, tg, tn, pF, pS, cT, cB, bo, wN, wF, wB, wV⟩ := u
  obtain ⟨n, q, t, rfl, rfl, rfl, rfl, rfl, rfl, h1, h2, h3, h4, h5, b1, b2, d1, d2, P, R⟩ := R
  have hb := dm_O_b kd n
  have hn := P.1
  rcases R with ⟨rfl, rfl, rfl⟩ | ⟨rfl, rfl, C, R⟩
  · refine br_t rfl ?_
    by_cases e : dm_O kd n = 0
    · have T : dm_Tr kd n := ⟨P.2.1, e⟩
      refine br_t (by rw [e]; rfl) (x_ana P T (fun se' fn' hse F => ?_))
      by_cases f0 : fn' 0 = 0
      · refine br_t f0 (x_tag P (fun tg' tn' ht => h _ _ ?_))
        exact ⟨n, q, t, rfl, rfl, rfl, rfl, rfl, rfl, h1, h2, h3, h4, h5, b1, b2, d1, d2, P, Or.inr ⟨rfl, rfl, ⟨e, hse, F, f0, ht⟩, dm_R10⟩⟩
      · refine br_f f0 (h _ _ ?_)
        exact ⟨n, q, t, rfl, rfl, rfl, rfl, rfl, rfl, h1, h2, h3, h4, h5, b1, b2, d1, d2, P, Or.inl ⟨rfl, rfl, rfl⟩⟩
    · exact br_f (nI_ne0 (by omega) (by omega)) (h _ _ J)
  · exact br_f (by decide) (h _ _ J)
theorem x_run {post : Int32 → St2 → Prop} {xB xD xn xo xl oc xu xa pk xw en cn cb : Int32} {xr cv : Int64} {kd na nb se fn tg tn cT cB wN wF wB : Nat → Int32} {pF pS bo wV : Nat → Int64} (h : ∃ m, dm_LX post m 0 0 (xB, xD, xn, xo, 1, xl, oc, 0, 0, 0, 0, 0, 1, 0, 0, cv, kd, na, nb, se, fn, tg, tn, pF, pS, cT, cB, bo, wN, wF, wB, wV)) : wpX_run post (xB, xD, xn, xo, 1, xl, oc, xu, xa, pk, xr, xw, en, cn, cb, cv, kd, na, nb, se, fn, tg, tn, pF, pS, cT, cB, bo, wN, wF, wB, wV) := by
  unfold wpX_run
  refine br_f (by decide) ?_
  unfold wpX_startRun
  exact h
theorem x_runM {post : Int32 → St2 → Prop} {u : St2} {B D : Nat} (R : dm_XR B D u) (h : ∀ r u', dm_XR B D u' → post r u') : wpX_run post u := by
  have J := R
  obtain ⟨xB, xD, xn, xo, xc, xl, oc, xu, xa, pk, xr, xw, en, cn, cb, cv, kd, na, nb, se, fn, tg, tn, pF, pS, cT, cB, bo, wN, wF, wB, wV⟩ := u
  obtain ⟨n, q, t, rfl, rfl, rfl, rfl, rfl, rfl, h1, h2, h3, h4, h5, b1, b2, d1, d2, P, R⟩ := R
  rcases R with ⟨rfl, rfl, rfl⟩ | ⟨rfl, rfl, C, R⟩
  · exact br_t rfl (h _ _ J)
  · have T : dm_Tr kd n := ⟨P.2.1, C.1⟩
    have hn := P.1
    have hpos := dm_Tr_pos T
    have hE0 := dm_E_0 T
    have X0 : dm_Fx kd na nb se fn tg tn n B D := ⟨P, C, b1, b2, d1, d2⟩
    have W : dm_Wd kd na nb fn n B 0 0 0 (fun _ => 0) (fun _ _ => 0) bo (fun _ => 0) (fun _ => 0) (fun _ => 0) pF pS cT cB (fun _ => 0) (fun _ => 0) (fun _ => 0) := ⟨fun c hc => absurd hc (Nat.not_lt_zero c), ⟨fun _ => rfl, fun j hj => absurd hj (Nat.not_lt_zero j)⟩, Nat.zero_le _, Nat.zero_le _⟩
    have EO : dm_EO 0 (fun _ => (0 : Int64)) ((fun _ _ => 0 : Nat → Nat → Nat) 0) (fun x => bo (0 * 8 + x)) (fun x => bt (fn 0) x = true) := by
      intro x hx hw
      rw [C.2.2.2.1, b_0] at hw
      exact absurd hw (by decide)
    have St : dm_St kd fn n 0 0 0 (fun _ => 0) (fun _ _ => 0) bo (fun _ => 0) (fun _ => 0) (fun _ => -1) (fun _ => 0) wN wF wB wV 0 0 0 0 := ⟨rfl, rfl, rfl⟩
    have G : dm_H B D 16641 0 0 (nI B, nI D, nI n, nI (dm_O kd n), 1, nI (dm_cnt kd n), oc, nI 0, nI 0, nI 0, 0, nI 0, 1, nI 0, nI 0, cv, kd, na, nb, se, fn, tg, tn, pF, pS, cT, cB, bo, wN, wF, wB, wV) := by
      refine (sim_all X0 16641).1 (fun _ => 0) (fun _ _ => 0) 0 0 W St hpos rfl rfl dm_eI0.symm (Nat.le_refl _) (Nat.le_refl _) EO (by omega) (by omega) (by omega) (by omega) ?_ (by omega)
      rw [hE0]
      omega
    obtain ⟨oc2, u', R', hX⟩ := G
    exact x_run ⟨16641, hX _ (h _ _ R') 16641 (Nat.le_refl _)⟩
