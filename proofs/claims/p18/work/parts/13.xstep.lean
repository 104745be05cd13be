/-! the class's steps -/
section
variable {xB xD xn xo xc xl oc xu xa pk xw en cn cb : Int32} {xr cv : Int64} {kd na nb se fn tg tn cT cB wN wF wB : Nat → Int32} {pF pS bo wV : Nat → Int64} {w i c un B D a s t y : Nat}
theorem dm_at2 {g : Nat → Int32} {x : Int32} {j : Nat} (hj : j < 1000) (e : g j = x) : g (nI j).toNatClampNeg = x := by
  rw [nI_clamp (by omega)]
  exact e
theorem dm_atL {g : Nat → Int64} {j : Nat} (hj : j < 1000) : g (nI j).toNatClampNeg = g j := by
  rw [nI_clamp (by omega)]
theorem dm_up2 {g : Nat → Int32} {x : Int32} {j : Nat} (hj : j < 1000) : upd g (nI j).toNatClampNeg x = upd g j x := by
  rw [nI_clamp (by omega)]
theorem dm_upL {g : Nat → Int64} {x : Int64} {j : Nat} (hj : j < 1000) : vp_updL g (nI j).toNatClampNeg x = vp_updL g j x := by
  rw [nI_clamp (by omega)]
theorem dm_w32 {j : Nat} (h : j < 32) : vp_in (nI j) 32 := vp_in_nI h (by omega)
theorem dm_w65 {j : Nat} (h : j < 65) : vp_in (nI j) 65 := vp_in_nI h (by omega)
theorem dm_w288 {j : Nat} (h : j < 288) : vp_in (nI j) 288 := vp_in_nI h (by omega)
theorem dm_ix (s y : Nat) : (nI s * 8) + nI y = nI (s * 8 + y) := by
  show (nI s * nI 8) + nI y = _
  rw [pk_mul, nI_add]
theorem x_sp12 {post : Int32 → St2 → Prop} (h : post 12 (nI B, xD, xn, xo, xc, xl, oc, nI B, xa, pk, xr, xw, en, cn, cb, cv, kd, na, nb, se, fn, tg, tn, pF, pS, cT, cB, bo, wN, wF, wB, wV)) : wpX_spend post (nI B, xD, xn, xo, xc, xl, oc, nI B, xa, pk, xr, xw, en, cn, cb, cv, kd, na, nb, se, fn, tg, tn, pF, pS, cT, cB, bo, wN, wF, wB, wV) := br_t rfl h
theorem x_sp0 {post : Int32 → St2 → Prop} (hu : un < B) (hB : B ≤ 64) (h : post 0 (nI B, xD, xn, xo, xc, xl, oc, nI (un + 1), xa, pk, xr, xw, en, cn, cb, cv, kd, na, nb, se, fn, tg, tn, pF, pS, cT, cB, bo, wN, wF, wB, wV)) : wpX_spend post (nI B, xD, xn, xo, xc, xl, oc, nI un, xa, pk, xr, xw, en, cn, cb, cv, kd, na, nb, se, fn, tg, tn, pF, pS, cT, cB, bo, wN, wF, wB, wV) :=
  br_f (fun e => by have := (nI_eq (by omega) (by omega)).mp e; omega) (nm_r (nI_1 un) h)
theorem x_mkc {post : Int64 → St2 → Prop} {p1 : Int32} (hi : i < 32) (hu : un < 65) (h : post (dm_val 3 (nI un)) (xB, xD, xn, xo, xc, xl, oc, nI un, xa, pk, xr, xw, en, cn, cb, cv, kd, na, nb, se, fn, tg, tn, pF, pS, upd cT un (tg i), upd cB un p1, bo, wN, wF, wB, wV)) : wpX_makeClosure post (xB, xD, xn, xo, xc, xl, oc, nI un, xa, pk, xr, xw, en, cn, cb, cv, kd, na, nb, se, fn, tg, tn, pF, pS, cT, cB, bo, wN, wF, wB, wV) (nI i) p1 := by
  refine ⟨dm_w32 hi, dm_w65 hu, ?_⟩
  rw [nI_clamp (show i < 2 ^ 31 by omega)]
  exact nm_r (dm_up2 (by omega)) ⟨dm_w65 hu, nm_r (dm_up2 (by omega)) h⟩
theorem x_cp2 {post : St2 → Prop} (hst : s < t) (ht : t < 65) (h : post (xB, xD, xn, xo, xc, xl, oc, xu, xa, pk, xr, xw, en, cn, cb, cv, kd, na, nb, se, fn, tg, tn, pF, pS, cT, cB, dm_cp bo s t 8, wN, wF, wB, wV)) : ∀ d k, k + d = 8 → wX_copyBindings_2 post (nI s) (nI t) xB xD xn xo xc xl oc xu xa pk xr xw en cn cb cv (d + 1) (nI k) kd na nb se fn tg tn pF pS cT cB (dm_cp bo s t k) wN wF wB wV := by
  intro d
  induction d with
  | zero =>
    intro k hk
    have e : k = 8 := by omega
    subst e
    exact br_t (nI_le (a := 8) (Nat.le_refl _) (by omega)) h
  | succ d ih =>
    intro k hk
    refine br_f (nI_ge (b := 8) (by omega) (by omega)) ⟨?_, ?_, ?_⟩
    · rw [dm_ix]
      exact vp_in_nI (by omega) (by omega)
    · rw [dm_ix]
      exact vp_in_nI (by omega) (by omega)
    · refine nm_r (show _ = dm_cp bo s t (k + 1) from ?_) (nm_r (nI_1 k) (ih (k + 1) (by omega)))
      rw [dm_ix, dm_ix, nI_clamp (by omega), nI_clamp (by omega)]
      exact dm_cps hst (by omega)
theorem x_copy {post : St2 → Prop} (hst : s < t) (ht : t < 65) (h : post (xB, xD, xn, xo, xc, xl, oc, xu, xa, pk, xr, xw, en, cn, cb, cv, kd, na, nb, se, fn, tg, tn, pF, pS, cT, cB, dm_cp bo s t 8, wN, wF, wB, wV)) : wpX_copyBindings post (xB, xD, xn, xo, xc, xl, oc, xu, xa, pk, xr, xw, en, cn, cb, cv, kd, na, nb, se, fn, tg, tn, pF, pS, cT, cB, bo, wN, wF, wB, wV) (nI s) (nI t) := by
  refine ⟨8 + 1, ?_⟩
  have g := x_cp2 hst ht h 8 0 (by omega)
  rw [dm_cp0] at g
  exact g
theorem x_bnd {post : St2 → Prop} {v : Int64} (ht : t < 65) (hy : y < 8) (h : post (xB, xD, xn, xo, xc, xl, oc, xu, xa, pk, xr, xw, en, cn, cb, cv, kd, na, nb, se, fn, tg, tn, pF, pS, cT, cB, vp_updL bo (t * 8 + y) v, wN, wF, wB, wV)) : wpX_bind post (xB, xD, xn, xo, xc, xl, oc, xu, xa, pk, xr, xw, en, cn, cb, cv, kd, na, nb, se, fn, tg, tn, pF, pS, cT, cB, bo, wN, wF, wB, wV) (nI t) (nI y) v := by
  refine ⟨?_, ?_⟩
  · rw [dm_ix]
    exact vp_in_nI (by omega) (by omega)
  · refine nm_r ?_ h
    rw [dm_ix, nI_clamp (by omega)]
/-! entering -/
theorem x_ef12 {post : Int32 → St2 → Prop} {q : Int32} (h : post 12 (nI B, xD, xn, xo, xc, xl, oc, nI B, xa, pk, xr, xw, en, cn, cb, cv, kd, na, nb, se, fn, tg, tn, pF, pS, cT, cB, bo, wN, wF, wB, wV)) : wpX_enterFun post (nI B, xD, xn, xo, xc, xl, oc, nI B, xa, pk, xr, xw, en, cn, cb, cv, kd, na, nb, se, fn, tg, tn, pF, pS, cT, cB, bo, wN, wF, wB, wV) q := by
  unfold wpX_enterFun
  exact x_sp12 (br_f (by decide) h)
theorem x_ef {post : Int32 → St2 → Prop} (hi : i < 32) (hu : un < B) (hB : B ≤ 64) (h : post 0 (nI B, xD, xn, xo, xc, xl, oc, nI (un + 1), xa, pk, xr, xw, 0, cn, cb, dm_val 3 (nI (un + 1)), kd, na, nb, se, fn, tg, tn, pF, pS, upd cT (un + 1) (tg i), upd cB (un + 1) cb, bo, wN, wF, wB, wV)) : wpX_enterFun post (nI B, xD, xn, xo, xc, xl, oc, nI un, xa, pk, xr, xw, en, cn, cb, cv, kd, na, nb, se, fn, tg, tn, pF, pS, cT, cB, bo, wN, wF, wB, wV) (nI i) := by
  have hu2 : un + 1 < 65 := by omega
  unfold wpX_enterFun
  exact x_sp0 hu hB (br_t rfl (x_mkc hi hu2 h))
theorem x_el12 {post : Int32 → St2 → Prop} {q : Int32} (h : post 12 (nI B, xD, xn, xo, xc, xl, oc, nI B, xa, pk, xr, xw, en, cn, cb, cv, kd, na, nb, se, fn, tg, tn, pF, pS, cT, cB, bo, wN, wF, wB, wV)) : wpX_enterLetRec post (nI B, xD, xn, xo, xc, xl, oc, nI B, xa, pk, xr, xw, en, cn, cb, cv, kd, na, nb, se, fn, tg, tn, pF, pS, cT, cB, bo, wN, wF, wB, wV) q := by
  unfold wpX_enterLetRec
  exact x_sp12 (br_f (by decide) h)
theorem x_el {post : Int32 → St2 → Prop} {n : Nat} (hn : n ≤ 32) (hi : i + 1 < n) (qA : na i = nI y) (hy : y < 8) (hs : s ≤ un) (S : se (i + 1) = nI (dm_E kd (i + 1))) (hu : un < B) (hB : B ≤ 64) (h : post 0 (nI B, xD, xn, xo, xc, xl, oc, nI (un + 1), xa, pk, xr, xw, 1, nI (dm_ch kd i 1), nI (un + 1), cv, kd, na, nb, se, fn, tg, tn, pF, pS, upd cT (un + 1) (tg i), upd cB (un + 1) (nI s), vp_updL (dm_cp bo s (un + 1) 8) ((un + 1) * 8 + y) (dm_val 3 (nI (un + 1))), wN, wF, wB, wV)) : wpX_enterLetRec post (nI B, xD, xn, xo, xc, xl, oc, nI un, xa, pk, xr, xw, en, cn, nI s, cv, kd, na, nb, se, fn, tg, tn, pF, pS, cT, cB, bo, wN, wF, wB, wV) (nI i) := by
  have hu2 : un + 1 < 65 := by omega
  have hi2 : i < 32 := by omega
  have hs2 : s < un + 1 := by omega
  unfold wpX_enterLetRec
  refine x_sp0 hu hB (br_t rfl (x_mkc hi2 hu2 (x_copy hs2 hu2 ⟨dm_w32 hi2, ?_⟩)))
  rw [dm_at2 (g := na) (by omega) qA]
  exact x_bnd hu2 hy (x_sec hn hi S h)
theorem x_mp12 {post : Int32 → St2 → Prop} {v1 v2 : Int64} (h : post 12 (nI B, xD, xn, xo, xc, xl, oc, nI B, xa, pk, xr, xw, en, cn, cb, cv, kd, na, nb, se, fn, tg, tn, pF, pS, cT, cB, bo, wN, wF, wB, wV)) : wpX_makePair post (nI B, xD, xn, xo, xc, xl, oc, nI B, xa, pk, xr, xw, en, cn, cb, cv, kd, na, nb, se, fn, tg, tn, pF, pS, cT, cB, bo, wN, wF, wB, wV) v1 v2 := by
  unfold wpX_makePair
  exact x_sp12 (br_f (by decide) h)
theorem x_mp {post : Int32 → St2 → Prop} {v1 v2 : Int64} (hu : un < B) (hB : B ≤ 64) (h : post 0 (nI B, xD, xn, xo, xc, xl, oc, nI (un + 1), xa, pk, xr, xw, 0, cn, cb, dm_val 2 (nI (un + 1)), kd, na, nb, se, fn, tg, tn, vp_updL pF (un + 1) v1, vp_updL pS (un + 1) v2, cT, cB, bo, wN, wF, wB, wV)) : wpX_makePair post (nI B, xD, xn, xo, xc, xl, oc, nI un, xa, pk, xr, xw, en, cn, cb, cv, kd, na, nb, se, fn, tg, tn, pF, pS, cT, cB, bo, wN, wF, wB, wV) v1 v2 := by
  have hu2 : un + 1 < 65 := by omega
  unfold wpX_makePair
  exact x_sp0 hu hB (br_t rfl ⟨dm_w65 hu2, nm_r (dm_upL (by omega)) ⟨dm_w65 hu2, nm_r (dm_upL (by omega)) h⟩⟩)
theorem x_rl12 {post : Int32 → St2 → Prop} {q : Int32} (h : post 12 (nI B, xD, xn, xo, xc, xl, oc, nI B, xa, pk, xr, nI w, en, cn, cb, cv, kd, na, nb, se, fn, tg, tn, pF, pS, cT, cB, bo, wN, wF, wB, wV)) : wpX_resumeLet post (nI B, xD, xn, xo, xc, xl, oc, nI B, xa, pk, xr, nI (w + 1), en, cn, cb, cv, kd, na, nb, se, fn, tg, tn, pF, pS, cT, cB, bo, wN, wF, wB, wV) q := by
  unfold wpX_resumeLet
  exact nm_r (nI_pred w) (x_sp12 (br_f (by decide) h))
theorem x_rl {post : Int32 → St2 → Prop} {n : Nat} (hn : n ≤ 32) (hi : i + 1 < n) (S : se (i + 1) = nI (dm_E kd (i + 1))) (hw : w < 288) (qB : wB w = nI s) (qA : na i = nI y) (hy : y < 8) (hs : s ≤ un) (hu : un < B) (hB : B ≤ 64) (h : post 0 (nI B, xD, xn, xo, xc, xl, oc, nI (un + 1), xa, pk, xr, nI w, 1, nI (dm_ch kd i 1), nI (un + 1), cv, kd, na, nb, se, fn, tg, tn, pF, pS, cT, cB, vp_updL (dm_cp bo s (un + 1) 8) ((un + 1) * 8 + y) cv, wN, wF, wB, wV)) : wpX_resumeLet post (nI B, xD, xn, xo, xc, xl, oc, nI un, xa, pk, xr, nI (w + 1), en, cn, cb, cv, kd, na, nb, se, fn, tg, tn, pF, pS, cT, cB, bo, wN, wF, wB, wV) (nI i) := by
  have hu2 : un + 1 < 65 := by omega
  have hi2 : i < 32 := by omega
  have hs2 : s < un + 1 := by omega
  unfold wpX_resumeLet
  refine nm_r (nI_pred w) (x_sp0 hu hB (br_t rfl ⟨dm_w288 hw, ?_⟩))
  rw [dm_at2 (g := wB) (by omega) qB]
  refine x_copy hs2 hu2 ⟨dm_w32 hi2, ?_⟩
  rw [dm_at2 (g := na) (by omega) qA]
  exact x_bnd hu2 hy (x_sec hn hi S h)
theorem x_e_num {post : Int32 → St2 → Prop} (hi : i < 32) (qK : kd i = 1) (h : post 0 (xB, xD, xn, xo, xc, xl, oc, xu, xa, pk, xr, xw, 0, nI i, cb, dm_val 1 (na i), kd, na, nb, se, fn, tg, tn, pF, pS, cT, cB, bo, wN, wF, wB, wV)) : wpX_enterNode post (xB, xD, xn, xo, xc, xl, oc, xu, xa, pk, xr, xw, en, nI i, cb, cv, kd, na, nb, se, fn, tg, tn, pF, pS, cT, cB, bo, wN, wF, wB, wV) := by
  refine ⟨dm_w32 hi, nm_r (dm_at2 (by omega) qK) (br_t rfl ⟨dm_w32 hi, ?_⟩)⟩
  rw [dm_at2 (g := na) (by omega) rfl]
  exact h
theorem x_e_var {post : Int32 → St2 → Prop} (hi : i < 32) (qK : kd i = 2) (qA : na i = nI y) (hy : y < 8) (hs : s < 65) (h : post 0 (xB, xD, xn, xo, xc, xl, oc, xu, xa, pk, xr, xw, 0, nI i, nI s, bo (s * 8 + y), kd, na, nb, se, fn, tg, tn, pF, pS, cT, cB, bo, wN, wF, wB, wV)) : wpX_enterNode post (xB, xD, xn, xo, xc, xl, oc, xu, xa, pk, xr, xw, en, nI i, nI s, cv, kd, na, nb, se, fn, tg, tn, pF, pS, cT, cB, bo, wN, wF, wB, wV) := by
  refine ⟨dm_w32 hi, nm_r (dm_at2 (by omega) qK) (br_f (by decide) (br_t rfl ⟨dm_w32 hi, ?_⟩))⟩
  rw [dm_at2 (g := na) (by omega) qA, dm_ix]
  refine ⟨vp_in_nI (by omega) (by omega), ?_⟩
  rw [dm_atL (g := bo) (by omega)]
  exact h
theorem x_e_fun12 {post : Int32 → St2 → Prop} (hi : i < 32) (qK : kd i = 13) (h : post 12 (nI B, xD, xn, xo, xc, xl, oc, nI B, xa, pk, xr, xw, en, nI i, cb, cv, kd, na, nb, se, fn, tg, tn, pF, pS, cT, cB, bo, wN, wF, wB, wV)) : wpX_enterNode post (nI B, xD, xn, xo, xc, xl, oc, nI B, xa, pk, xr, xw, en, nI i, cb, cv, kd, na, nb, se, fn, tg, tn, pF, pS, cT, cB, bo, wN, wF, wB, wV) :=
  ⟨dm_w32 hi, nm_r (dm_at2 (by omega) qK) (br_f (by decide) (br_f (by decide) (br_t rfl (x_ef12 h))))⟩
theorem x_e_fun {post : Int32 → St2 → Prop} (hi : i < 32) (qK : kd i = 13) (hu : un < B) (hB : B ≤ 64) (h : post 0 (nI B, xD, xn, xo, xc, xl, oc, nI (un + 1), xa, pk, xr, xw, 0, nI i, cb, dm_val 3 (nI (un + 1)), kd, na, nb, se, fn, tg, tn, pF, pS, upd cT (un + 1) (tg i), upd cB (un + 1) cb, bo, wN, wF, wB, wV)) : wpX_enterNode post (nI B, xD, xn, xo, xc, xl, oc, nI un, xa, pk, xr, xw, en, nI i, cb, cv, kd, na, nb, se, fn, tg, tn, pF, pS, cT, cB, bo, wN, wF, wB, wV) :=
  ⟨dm_w32 hi, nm_r (dm_at2 (by omega) qK) (br_f (by decide) (br_f (by decide) (br_t rfl (x_ef hi hu hB h))))⟩
theorem x_e_rec12 {post : Int32 → St2 → Prop} (hi : i < 32) (qK : kd i = 15) (h : post 12 (nI B, xD, xn, xo, xc, xl, oc, nI B, xa, pk, xr, xw, en, nI i, cb, cv, kd, na, nb, se, fn, tg, tn, pF, pS, cT, cB, bo, wN, wF, wB, wV)) : wpX_enterNode post (nI B, xD, xn, xo, xc, xl, oc, nI B, xa, pk, xr, xw, en, nI i, cb, cv, kd, na, nb, se, fn, tg, tn, pF, pS, cT, cB, bo, wN, wF, wB, wV) :=
  ⟨dm_w32 hi, nm_r (dm_at2 (by omega) qK) (br_f (by decide) (br_f (by decide) (br_f (by decide) (br_t rfl (x_el12 h)))))⟩
theorem x_e_rec {post : Int32 → St2 → Prop} {n : Nat} (hn : n ≤ 32) (hi : i + 1 < n) (qK : kd i = 15) (qA : na i = nI y) (hy : y < 8) (hs : s ≤ un) (S : se (i + 1) = nI (dm_E kd (i + 1))) (hu : un < B) (hB : B ≤ 64) (h : post 0 (nI B, xD, xn, xo, xc, xl, oc, nI (un + 1), xa, pk, xr, xw, 1, nI (dm_ch kd i 1), nI (un + 1), cv, kd, na, nb, se, fn, tg, tn, pF, pS, upd cT (un + 1) (tg i), upd cB (un + 1) (nI s), vp_updL (dm_cp bo s (un + 1) 8) ((un + 1) * 8 + y) (dm_val 3 (nI (un + 1))), wN, wF, wB, wV)) : wpX_enterNode post (nI B, xD, xn, xo, xc, xl, oc, nI un, xa, pk, xr, xw, en, nI i, nI s, cv, kd, na, nb, se, fn, tg, tn, pF, pS, cT, cB, bo, wN, wF, wB, wV) := by
  exact ⟨dm_w32 (by omega), nm_r (dm_at2 (by omega) qK) (br_f (by decide) (br_f (by decide) (br_f (by decide) (br_t rfl (x_el hn hi qA hy hs S hu hB h)))))⟩
theorem x_e_oth {post : Int32 → St2 → Prop} (hi : i < 32) (kF : dm_kF (kd i)) (hw : w < 288) (h : post 0 (xB, xD, xn, xo, xc, xl, oc, xu, xa, pk, xr, nI (w + 1), 1, nI (i + 1), cb, cv, kd, na, nb, se, fn, tg, tn, pF, pS, cT, cB, bo, upd wN w (nI i), upd wF w 0, upd wB w cb, wV)) : wpX_enterNode post (xB, xD, xn, xo, xc, xl, oc, xu, xa, pk, xr, nI w, en, nI i, cb, cv, kd, na, nb, se, fn, tg, tn, pF, pS, cT, cB, bo, wN, wF, wB, wV) := by
  obtain ⟨n1, n2, n13, n15⟩ := dm_kF_n kF
  refine ⟨dm_w32 hi, nm_r (dm_at2 (by omega) rfl) (br_f n1 (br_f n2 (br_f n13 (br_f n15 ⟨dm_w288 hw, nm_r (dm_up2 (by omega)) ⟨dm_w288 hw, nm_r (dm_up2 (by omega)) ⟨dm_w288 hw, nm_r (dm_up2 (by omega)) (nm_r (nI_1 w) ?_)⟩⟩⟩))))⟩
  refine (show wpX_firstChild _ _ _ from ?_)
  unfold wpX_firstChild
  rw [nI_1]
  exact h
/-! resuming: w + 1 nodes wait -/
theorem x_r_D {post : Int32 → St2 → Prop} (hw : w < 288) (qN : wN w = nI i) (hi : i < 32) (kD : dm_kB (kd i) ∨ kd i = 10) (h : wpX_resumeOperator post (xB, xD, xn, xo, xc, xl, oc, xu, xa, pk, xr, nI (w + 1), en, cn, cb, cv, kd, na, nb, se, fn, tg, tn, pF, pS, cT, cB, bo, wN, wF, wB, wV) (nI i)) : wpX_resumeNode post (xB, xD, xn, xo, xc, xl, oc, xu, xa, pk, xr, nI (w + 1), en, cn, cb, cv, kd, na, nb, se, fn, tg, tn, pF, pS, cT, cB, bo, wN, wF, wB, wV) := by
  refine nm_r (nI_pred w) ⟨dm_w288 hw, nm_r (dm_at2 (by omega) qN) ⟨dm_w32 hi, nm_r (dm_at2 (by omega) rfl) ?_⟩⟩
  rcases kD with (e | e | e | e | e | e) | e
  · exact br_t (by rw [e]; decide) h
  · exact br_t (by rw [e]; decide) h
  · exact br_t (by rw [e]; decide) h
  · exact br_t (by rw [e]; decide) h
  · exact br_t (by rw [e]; decide) h
  · exact br_t (by rw [e]; decide) h
  · exact br_f (by rw [e]; decide) (br_f (by rw [e]; decide) (br_f (by rw [e]; decide) (br_t e h)))
theorem x_esc {post : Int32 → St2 → Prop} {n : Nat} (hn : n ≤ 32) (hi : i + 1 < n) (S : se (i + 1) = nI (dm_E kd (i + 1))) (hw : w < 288) (h : post 0 (xB, xD, xn, xo, xc, xl, oc, xu, xa, pk, xr, nI (w + 1), 1, nI (dm_ch kd i 1), wB w, cv, kd, na, nb, se, fn, tg, tn, pF, pS, cT, cB, bo, wN, upd wF w 1, wB, vp_updL wV w cv)) : wpX_enterSecondChild post (xB, xD, xn, xo, xc, xl, oc, xu, xa, pk, xr, nI (w + 1), en, cn, cb, cv, kd, na, nb, se, fn, tg, tn, pF, pS, cT, cB, bo, wN, wF, wB, wV) (nI i) := by
  refine nm_r (nI_pred w) ⟨dm_w288 hw, nm_r (dm_up2 (by omega)) ⟨dm_w288 hw, nm_r (dm_upL (by omega)) (x_sec hn hi S ⟨dm_w288 hw, ?_⟩)⟩⟩
  rw [dm_at2 (g := wB) (by omega) rfl]
  exact h
theorem x_r_one {post : Int32 → St2 → Prop} {n : Nat} (hn : n ≤ 32) (hi : i + 1 < n) (S : se (i + 1) = nI (dm_E kd (i + 1))) (hw : w < 288) (qN : wN w = nI i) (qF : wF w = 0) (kS : dm_kS (kd i)) (h : post 0 (xB, xD, xn, xo, xc, xl, oc, xu, xa, pk, xr, nI (w + 1), 1, nI (dm_ch kd i 1), wB w, cv, kd, na, nb, se, fn, tg, tn, pF, pS, cT, cB, bo, wN, upd wF w 1, wB, vp_updL wV w cv)) : wpX_resumeNode post (xB, xD, xn, xo, xc, xl, oc, xu, xa, pk, xr, nI (w + 1), en, cn, cb, cv, kd, na, nb, se, fn, tg, tn, pF, pS, cT, cB, bo, wN, wF, wB, wV) := by
  by_cases k16 : kd i = 16
  · refine nm_r (nI_pred w) ⟨dm_w288 hw, nm_r (dm_at2 (by omega) qN) ⟨dm_w32 (by omega), nm_r (dm_at2 (by omega) k16) ?_⟩⟩
    refine br_f (by decide) (br_f (by decide) (br_f (by decide) (br_f (by decide) (br_f (by decide) (br_f (by decide) (br_f (by decide) (br_f (by decide) (br_f (by decide) (br_t rfl ?_)))))))))
    exact nm_r (nI_pred w) ⟨dm_w288 hw, br_t (dm_at2 (by omega) qF) (x_esc hn hi S hw h)⟩
  · have kD : dm_kB (kd i) ∨ kd i = 10 := by
      rcases kS with e | e | e | e | e | e | e | e
      · exact Or.inl (Or.inl e)
      · exact Or.inl (Or.inr (Or.inl e))
      · exact Or.inl (Or.inr (Or.inr (Or.inl e)))
      · exact Or.inl (Or.inr (Or.inr (Or.inr (Or.inl e))))
      · exact Or.inl (Or.inr (Or.inr (Or.inr (Or.inr (Or.inl e)))))
      · exact Or.inl (Or.inr (Or.inr (Or.inr (Or.inr (Or.inr e)))))
      · exact Or.inr e
      · exact absurd e k16
    refine x_r_D hw qN (by omega) kD ?_
    exact nm_r (nI_pred w) ⟨dm_w288 hw, br_t (dm_at2 (by omega) qF) (x_esc hn hi S hw h)⟩
theorem x_r_pair12 {post : Int32 → St2 → Prop} (hw : w < 288) (qN : wN w = nI i) (hi : i < 32) (qF : wF w = 1) (qK : kd i = 10) (h : post 12 (nI B, xD, xn, xo, xc, xl, oc, nI B, xa, pk, xr, nI w, en, cn, cb, cv, kd, na, nb, se, fn, tg, tn, pF, pS, cT, cB, bo, wN, wF, wB, wV)) : wpX_resumeNode post (nI B, xD, xn, xo, xc, xl, oc, nI B, xa, pk, xr, nI (w + 1), en, cn, cb, cv, kd, na, nb, se, fn, tg, tn, pF, pS, cT, cB, bo, wN, wF, wB, wV) := by
  refine x_r_D hw qN hi (Or.inr qK) (nm_r (nI_pred w) ⟨dm_w288 hw, br_f (by rw [dm_at2 (g := wF) (by omega) qF]; decide) (nm_r (nI_pred w) ⟨dm_w32 hi, br_t (dm_at2 (by omega) qK) ⟨dm_w288 hw, ?_⟩⟩)⟩)
  exact x_mp12 h
theorem x_r_pair {post : Int32 → St2 → Prop} (hw : w < 288) (qN : wN w = nI i) (hi : i < 32) (qF : wF w = 1) (qK : kd i = 10) (hu : un < B) (hB : B ≤ 64) (h : post 0 (nI B, xD, xn, xo, xc, xl, oc, nI (un + 1), xa, pk, xr, nI w, 0, cn, cb, dm_val 2 (nI (un + 1)), kd, na, nb, se, fn, tg, tn, vp_updL pF (un + 1) (wV w), vp_updL pS (un + 1) cv, cT, cB, bo, wN, wF, wB, wV)) : wpX_resumeNode post (nI B, xD, xn, xo, xc, xl, oc, nI un, xa, pk, xr, nI (w + 1), en, cn, cb, cv, kd, na, nb, se, fn, tg, tn, pF, pS, cT, cB, bo, wN, wF, wB, wV) := by
  refine x_r_D hw qN hi (Or.inr qK) (nm_r (nI_pred w) ⟨dm_w288 hw, br_f (by rw [dm_at2 (g := wF) (by omega) qF]; decide) (nm_r (nI_pred w) ⟨dm_w32 hi, br_t (dm_at2 (by omega) qK) ⟨dm_w288 hw, ?_⟩⟩)⟩)
  rw [dm_atL (g := wV) (by omega)]
  exact x_mp hu hB h
theorem x_r_bin {post : Int32 → St2 → Prop} (hw : w < 288) (qN : wN w = nI i) (hi : i < 32) (qF : wF w = 1) (kB : dm_kB (kd i)) (h : wpX_operate post (xB, xD, xn, xo, xc, xl, oc, xu, xa, pk, xr, nI w, en, cn, cb, cv, kd, na, nb, se, fn, tg, tn, pF, pS, cT, cB, bo, wN, wF, wB, wV) (kd i) (wV w) cv) : wpX_resumeNode post (xB, xD, xn, xo, xc, xl, oc, xu, xa, pk, xr, nI (w + 1), en, cn, cb, cv, kd, na, nb, se, fn, tg, tn, pF, pS, cT, cB, bo, wN, wF, wB, wV) := by
  obtain ⟨n1, n2, n13, n15, n9, n11, n12, n14, n16, n10⟩ := dm_kB_n kB
  refine x_r_D hw qN hi (Or.inl kB) (nm_r (nI_pred w) ⟨dm_w288 hw, br_f (by rw [dm_at2 (g := wF) (by omega) qF]; decide) (nm_r (nI_pred w) ⟨dm_w32 hi, br_f (by rw [dm_at2 (g := kd) (by omega) rfl]; exact n10) ⟨dm_w32 hi, dm_w288 hw, ?_⟩⟩)⟩)
  rw [dm_at2 (g := kd) (by omega) rfl, dm_atL (g := wV) (by omega)]
  exact h
theorem x_b8a {post : Int32 → St2 → Prop} {k : Int32} {v1 v2 : Int64} (hk : ¬ dm_kof v1 = 1) (h : post 8 (xB, xD, xn, xo, xc, xl, oc, xu, xa, pk, xr, xw, en, cn, cb, cv, kd, na, nb, se, fn, tg, tn, pF, pS, cT, cB, bo, wN, wF, wB, wV)) : wpX_operate post (xB, xD, xn, xo, xc, xl, oc, xu, xa, pk, xr, xw, en, cn, cb, cv, kd, na, nb, se, fn, tg, tn, pF, pS, cT, cB, bo, wN, wF, wB, wV) k v1 v2 := br_f hk h
theorem x_b8b {post : Int32 → St2 → Prop} {k : Int32} {v1 v2 : Int64} (hk : dm_kof v1 = 1) (hk2 : ¬ dm_kof v2 = 1) (h : post 8 (xB, xD, xn, xo, xc, xl, oc, xu, xa, pk, xr, xw, en, cn, cb, cv, kd, na, nb, se, fn, tg, tn, pF, pS, cT, cB, bo, wN, wF, wB, wV)) : wpX_operate post (xB, xD, xn, xo, xc, xl, oc, xu, xa, pk, xr, xw, en, cn, cb, cv, kd, na, nb, se, fn, tg, tn, pF, pS, cT, cB, bo, wN, wF, wB, wV) k v1 v2 := br_t hk (br_f hk2 h)
theorem x_b11 {post : Int32 → St2 → Prop} {v1 v2 : Int64} (hk : dm_kof v1 = 1) (hk2 : dm_kof v2 = 1) (hz : v2.toInt32 = 0) (h : post 11 (xB, xD, xn, xo, xc, xl, oc, xu, xa, pk, xr, xw, en, cn, cb, cv, kd, na, nb, se, fn, tg, tn, pF, pS, cT, cB, bo, wN, wF, wB, wV)) : wpX_operate post (xB, xD, xn, xo, xc, xl, oc, xu, xa, pk, xr, xw, en, cn, cb, cv, kd, na, nb, se, fn, tg, tn, pF, pS, cT, cB, bo, wN, wF, wB, wV) 6 v1 v2 :=
  br_t hk (br_t hk2 (br_f (by decide) (br_f (by decide) (br_f (by decide) (br_f (by decide) (br_f (by decide) (br_t rfl (br_t hz h))))))))
theorem x_b {post : Int32 → St2 → Prop} {k : Int32} {v1 v2 : Int64} (hk : dm_kof v1 = 1) (hk2 : dm_kof v2 = 1) (hz : ¬ (k = 6 ∧ v2.toInt32 = 0)) (kB : dm_kB k) (h : post 0 (xB, xD, xn, xo, xc, xl, oc, xu, xa, pk, xr, xw, 0, cn, cb, dm_val 1 (dm_bin k v1.toInt32 v2.toInt32), kd, na, nb, se, fn, tg, tn, pF, pS, cT, cB, bo, wN, wF, wB, wV)) : wpX_operate post (xB, xD, xn, xo, xc, xl, oc, xu, xa, pk, xr, xw, en, cn, cb, cv, kd, na, nb, se, fn, tg, tn, pF, pS, cT, cB, bo, wN, wF, wB, wV) k v1 v2 := by
  have W : ∀ z, z = dm_bin k v1.toInt32 v2.toInt32 → wX_operate_147 post z xB xD xn xo xc xl oc xu xa pk xr xw en cn cb cv kd na nb se fn tg tn pF pS cT cB bo wN wF wB wV := by
    rintro z rfl
    exact h
  refine br_t hk (br_t hk2 ?_)
  rcases kB with rfl | rfl | rfl | rfl | rfl | rfl
  · exact br_f (by decide) (br_f (by decide) (br_t rfl (nm_e (W _ rfl))))
  · exact br_f (by decide) (br_f (by decide) (br_f (by decide) (br_t rfl (nm_e (W _ rfl)))))
  · exact br_f (by decide) (br_f (by decide) (br_f (by decide) (br_f (by decide) (br_t rfl (nm_e (W _ rfl))))))
  · have hz2 : ¬ v2.toInt32 = 0 := fun e => hz ⟨rfl, e⟩
    exact br_f (by decide) (br_f (by decide) (br_f (by decide) (br_f (by decide) (br_f (by decide) (br_t rfl (br_f hz2 ⟨hz2, nm_e (W _ rfl)⟩))))))
  · refine br_f (by decide) (br_f (by decide) (br_f (by decide) (br_f (by decide) (br_f (by decide) (br_f (by decide) (br_t rfl ?_))))))
    by_cases e : v2.toInt32 ≤ v1.toInt32
    · exact br_t e (W _ (if_pos e).symm)
    · exact br_f e (W _ (if_neg e).symm)
  · refine br_f (by decide) (br_t (by decide) ?_)
    by_cases e : v1.toInt32 = v2.toInt32
    · exact br_t e (W _ (if_pos e).symm)
    · exact br_f e (W _ (if_neg e).symm)
theorem x_r_if8 {post : Int32 → St2 → Prop} (hw : w < 288) (qN : wN w = nI i) (hi : i < 32) (qK : kd i = 9) (hk : ¬ dm_kof cv = 1) (h : post 8 (xB, xD, xn, xo, xc, xl, oc, xu, xa, pk, xr, nI w, en, cn, cb, cv, kd, na, nb, se, fn, tg, tn, pF, pS, cT, cB, bo, wN, wF, wB, wV)) : wpX_resumeNode post (xB, xD, xn, xo, xc, xl, oc, xu, xa, pk, xr, nI (w + 1), en, cn, cb, cv, kd, na, nb, se, fn, tg, tn, pF, pS, cT, cB, bo, wN, wF, wB, wV) :=
  nm_r (nI_pred w) ⟨dm_w288 hw, nm_r (dm_at2 (by omega) qN) ⟨dm_w32 hi, nm_r (dm_at2 (by omega) qK) (br_f (by decide) (br_f (by decide) (br_t rfl (nm_r (nI_pred w) (br_f hk h)))))⟩⟩
theorem x_r_if {post : Int32 → St2 → Prop} {n b : Nat} (hn : n ≤ 32) (hi : i + 1 < n) (hi2 : dm_ch kd i 1 < n) (S : ∀ j, j < n → se j = nI (dm_E kd j)) (hw : w < 288) (qN : wN w = nI i) (qK : kd i = 9) (hk : dm_kof cv = 1) (hb : (cv.toInt32 = 0 ∧ b = 2) ∨ (¬ cv.toInt32 = 0 ∧ b = 1)) (h : post 0 (xB, xD, xn, xo, xc, xl, oc, xu, xa, pk, xr, nI w, 1, nI (dm_ch kd i b), wB w, cv, kd, na, nb, se, fn, tg, tn, pF, pS, cT, cB, bo, wN, wF, wB, wV)) : wpX_resumeNode post (xB, xD, xn, xo, xc, xl, oc, xu, xa, pk, xr, nI (w + 1), en, cn, cb, cv, kd, na, nb, se, fn, tg, tn, pF, pS, cT, cB, bo, wN, wF, wB, wV) := by
  have W : wX_resumeIf_47 post (nI (dm_ch kd i b)) xB xD xn xo xc xl oc xu xa pk xr (nI w) en cn cb cv kd na nb se fn tg tn pF pS cT cB bo wN wF wB wV := by
    refine ⟨dm_w288 hw, ?_⟩
    rw [dm_at2 (g := wB) (by omega) rfl]
    exact h
  refine nm_r (nI_pred w) ⟨dm_w288 hw, nm_r (dm_at2 (by omega) qN) ⟨dm_w32 (by omega), nm_r (dm_at2 (by omega) qK) (br_f (by decide) (br_f (by decide) (br_t rfl (nm_r (nI_pred w) (br_t hk ?_)))))⟩⟩
  rcases hb with ⟨z, rfl⟩ | ⟨z, rfl⟩
  · refine br_t z ⟨?_, ?_⟩
    · rw [nI_1]
      exact dm_w32 (by omega)
    · have e1 : se (nI i + 1).toNatClampNeg = nI (dm_ch kd i 1) := by
        rw [nI_1]
        exact dm_at2 (by omega) (S _ hi)
      rw [e1]
      refine ⟨dm_w32 (by omega), ?_⟩
      rw [dm_at2 (g := se) (by omega) (S _ hi2)]
      exact W
  · exact br_f z (x_sec hn hi (S _ hi) W)
theorem x_r_part10 {post : Int32 → St2 → Prop} (hw : w < 288) (qN : wN w = nI i) (hi : i < 32) (qK : kd i = 11 ∨ kd i = 12) (hk : ¬ dm_kof cv = 2) (h : post 10 (xB, xD, xn, xo, xc, xl, oc, xu, xa, pk, xr, nI w, en, cn, cb, cv, kd, na, nb, se, fn, tg, tn, pF, pS, cT, cB, bo, wN, wF, wB, wV)) : wpX_resumeNode post (xB, xD, xn, xo, xc, xl, oc, xu, xa, pk, xr, nI (w + 1), en, cn, cb, cv, kd, na, nb, se, fn, tg, tn, pF, pS, cT, cB, bo, wN, wF, wB, wV) := by
  refine nm_r (nI_pred w) ⟨dm_w288 hw, nm_r (dm_at2 (by omega) qN) ⟨dm_w32 hi, nm_r (dm_at2 (by omega) rfl) ?_⟩⟩
  rcases qK with e | e <;> rw [e]
  · exact br_f (by decide) (br_f (by decide) (br_f (by decide) (br_f (by decide) (br_t rfl (nm_r (nI_pred w) (br_f hk h))))))
  · exact br_f (by decide) (br_f (by decide) (br_f (by decide) (br_f (by decide) (br_f (by decide) (br_t rfl (nm_r (nI_pred w) (br_f hk h)))))))
theorem x_r_fst {post : Int32 → St2 → Prop} {p : Nat} (hw : w < 288) (qN : wN w = nI i) (hi : i < 32) (qK : kd i = 11) (hk : dm_kof cv = 2) (hd : cv.toInt32 = nI p) (hp : p < 65) (h : post 0 (xB, xD, xn, xo, xc, xl, oc, xu, xa, pk, xr, nI w, 0, cn, cb, pF p, kd, na, nb, se, fn, tg, tn, pF, pS, cT, cB, bo, wN, wF, wB, wV)) : wpX_resumeNode post (xB, xD, xn, xo, xc, xl, oc, xu, xa, pk, xr, nI (w + 1), en, cn, cb, cv, kd, na, nb, se, fn, tg, tn, pF, pS, cT, cB, bo, wN, wF, wB, wV) := by
  have e : ∀ g : Nat → Int64, g cv.toInt32.toNatClampNeg = g p := by
    intro g
    rw [hd, nI_clamp (by omega)]
  refine nm_r (nI_pred w) ⟨dm_w288 hw, nm_r (dm_at2 (by omega) qN) ⟨dm_w32 hi, nm_r (dm_at2 (by omega) qK) (br_f (by decide) (br_f (by decide) (br_f (by decide) (br_f (by decide) (br_t rfl (nm_r (nI_pred w) (br_t hk ⟨dm_w32 hi, br_t (dm_at2 (by omega) qK) ⟨by rw [hd]; exact dm_w65 hp, ?_⟩⟩)))))))⟩⟩
  rw [e pF]
  exact h
theorem x_r_snd {post : Int32 → St2 → Prop} {p : Nat} (hw : w < 288) (qN : wN w = nI i) (hi : i < 32) (qK : kd i = 12) (hk : dm_kof cv = 2) (hd : cv.toInt32 = nI p) (hp : p < 65) (h : post 0 (xB, xD, xn, xo, xc, xl, oc, xu, xa, pk, xr, nI w, 0, cn, cb, pS p, kd, na, nb, se, fn, tg, tn, pF, pS, cT, cB, bo, wN, wF, wB, wV)) : wpX_resumeNode post (xB, xD, xn, xo, xc, xl, oc, xu, xa, pk, xr, nI (w + 1), en, cn, cb, cv, kd, na, nb, se, fn, tg, tn, pF, pS, cT, cB, bo, wN, wF, wB, wV) := by
  have e : ∀ g : Nat → Int64, g cv.toInt32.toNatClampNeg = g p := by
    intro g
    rw [hd, nI_clamp (by omega)]
  refine nm_r (nI_pred w) ⟨dm_w288 hw, nm_r (dm_at2 (by omega) qN) ⟨dm_w32 hi, nm_r (dm_at2 (by omega) qK) (br_f (by decide) (br_f (by decide) (br_f (by decide) (br_f (by decide) (br_f (by decide) (br_t rfl (nm_r (nI_pred w) (br_t hk ⟨dm_w32 hi, br_f (by rw [dm_at2 (g := kd) (by omega) qK]; decide) ⟨by rw [hd]; exact dm_w65 hp, ?_⟩⟩))))))))⟩⟩
  rw [e pS]
  exact h
theorem x_r_let12 {post : Int32 → St2 → Prop} (hw : w < 288) (qN : wN w = nI i) (hi : i < 32) (qK : kd i = 14) (h : post 12 (nI B, xD, xn, xo, xc, xl, oc, nI B, xa, pk, xr, nI w, en, cn, cb, cv, kd, na, nb, se, fn, tg, tn, pF, pS, cT, cB, bo, wN, wF, wB, wV)) : wpX_resumeNode post (nI B, xD, xn, xo, xc, xl, oc, nI B, xa, pk, xr, nI (w + 1), en, cn, cb, cv, kd, na, nb, se, fn, tg, tn, pF, pS, cT, cB, bo, wN, wF, wB, wV) :=
  nm_r (nI_pred w) ⟨dm_w288 hw, nm_r (dm_at2 (by omega) qN) ⟨dm_w32 hi, nm_r (dm_at2 (by omega) qK) (br_f (by decide) (br_f (by decide) (br_f (by decide) (br_f (by decide) (br_f (by decide) (br_f (by decide) (br_f (by decide) (br_t rfl (x_rl12 h)))))))))⟩⟩
theorem x_r_let {post : Int32 → St2 → Prop} {n : Nat} (hn : n ≤ 32) (hi : i + 1 < n) (S : se (i + 1) = nI (dm_E kd (i + 1))) (hw : w < 288) (qN : wN w = nI i) (qB : wB w = nI s) (qK : kd i = 14) (qA : na i = nI y) (hy : y < 8) (hs : s ≤ un) (hu : un < B) (hB : B ≤ 64) (h : post 0 (nI B, xD, xn, xo, xc, xl, oc, nI (un + 1), xa, pk, xr, nI w, 1, nI (dm_ch kd i 1), nI (un + 1), cv, kd, na, nb, se, fn, tg, tn, pF, pS, cT, cB, vp_updL (dm_cp bo s (un + 1) 8) ((un + 1) * 8 + y) cv, wN, wF, wB, wV)) : wpX_resumeNode post (nI B, xD, xn, xo, xc, xl, oc, nI un, xa, pk, xr, nI (w + 1), en, cn, cb, cv, kd, na, nb, se, fn, tg, tn, pF, pS, cT, cB, bo, wN, wF, wB, wV) :=
  nm_r (nI_pred w) ⟨dm_w288 hw, nm_r (dm_at2 (by omega) qN) ⟨dm_w32 (by omega), nm_r (dm_at2 (by omega) qK) (br_f (by decide) (br_f (by decide) (br_f (by decide) (br_f (by decide) (br_f (by decide) (br_f (by decide) (br_f (by decide) (br_t rfl (x_rl hn hi S hw qB qA hy hs hu hB h)))))))))⟩⟩
theorem x_r_app {post : Int32 → St2 → Prop} (hw : w < 288) (qN : wN w = nI i) (hi : i < 32) (qF : wF w = 1) (qK : kd i = 16) (h : wpX_apply post (xB, xD, xn, xo, xc, xl, oc, xu, xa, pk, xr, nI (w + 1), en, cn, cb, cv, kd, na, nb, se, fn, tg, tn, pF, pS, cT, cB, bo, wN, upd wF w 2, wB, wV) (wV w) cv) : wpX_resumeNode post (xB, xD, xn, xo, xc, xl, oc, xu, xa, pk, xr, nI (w + 1), en, cn, cb, cv, kd, na, nb, se, fn, tg, tn, pF, pS, cT, cB, bo, wN, wF, wB, wV) := by
  refine nm_r (nI_pred w) ⟨dm_w288 hw, nm_r (dm_at2 (by omega) qN) ⟨dm_w32 (by omega), nm_r (dm_at2 (by omega) qK) ?_⟩⟩
  refine br_f (by decide) (br_f (by decide) (br_f (by decide) (br_f (by decide) (br_f (by decide) (br_f (by decide) (br_f (by decide) (br_f (by decide) (br_f (by decide) (br_t rfl ?_)))))))))
  refine nm_r (nI_pred w) ⟨dm_w288 hw, br_f (by rw [dm_at2 (g := wF) (by omega) qF]; decide) ⟨dm_w288 hw, br_t (dm_at2 (by omega) qF) ⟨dm_w288 hw, nm_r (dm_up2 (by omega)) ⟨dm_w288 hw, ?_⟩⟩⟩⟩
  rw [dm_atL (g := wV) (by omega)]
  exact h
theorem x_r_body {post : Int32 → St2 → Prop} (hw : w < 288) (qN : wN w = nI i) (hi : i < 32) (qF : wF w = 2) (qK : kd i = 16) (h : post 0 (xB, xD, xn, xo, xc, xl, oc, xu, nI a, pk, xr, nI w, en, cn, cb, cv, kd, na, nb, se, fn, tg, tn, pF, pS, cT, cB, bo, wN, wF, wB, wV)) : wpX_resumeNode post (xB, xD, xn, xo, xc, xl, oc, xu, nI (a + 1), pk, xr, nI (w + 1), en, cn, cb, cv, kd, na, nb, se, fn, tg, tn, pF, pS, cT, cB, bo, wN, wF, wB, wV) := by
  refine nm_r (nI_pred w) ⟨dm_w288 hw, nm_r (dm_at2 (by omega) qN) ⟨dm_w32 (by omega), nm_r (dm_at2 (by omega) qK) ?_⟩⟩
  refine br_f (by decide) (br_f (by decide) (br_f (by decide) (br_f (by decide) (br_f (by decide) (br_f (by decide) (br_f (by decide) (br_f (by decide) (br_f (by decide) (br_t rfl ?_)))))))))
  exact nm_r (nI_pred w) ⟨dm_w288 hw, br_f (by rw [dm_at2 (g := wF) (by omega) qF]; decide) ⟨dm_w288 hw, br_f (by rw [dm_at2 (g := wF) (by omega) qF]; decide) (nm_r (nI_pred w) (nm_r (nI_pred a) h))⟩⟩
theorem x_a9 {post : Int32 → St2 → Prop} {v1 v2 : Int64} (hk : ¬ dm_kof v1 = 3) (h : post 9 (xB, xD, xn, xo, xc, xl, oc, xu, xa, pk, xr, xw, en, cn, cb, cv, kd, na, nb, se, fn, tg, tn, pF, pS, cT, cB, bo, wN, wF, wB, wV)) : wpX_apply post (xB, xD, xn, xo, xc, xl, oc, xu, xa, pk, xr, xw, en, cn, cb, cv, kd, na, nb, se, fn, tg, tn, pF, pS, cT, cB, bo, wN, wF, wB, wV) v1 v2 := br_f hk h
theorem x_a12 {post : Int32 → St2 → Prop} {v1 v2 : Int64} (hk : dm_kof v1 = 3) (h : post 12 (nI B, xD, xn, xo, xc, xl, oc, nI B, xa, pk, xr, xw, en, cn, cb, cv, kd, na, nb, se, fn, tg, tn, pF, pS, cT, cB, bo, wN, wF, wB, wV)) : wpX_apply post (nI B, xD, xn, xo, xc, xl, oc, nI B, xa, pk, xr, xw, en, cn, cb, cv, kd, na, nb, se, fn, tg, tn, pF, pS, cT, cB, bo, wN, wF, wB, wV) v1 v2 := br_t hk (br_t rfl h)
theorem x_a13 {post : Int32 → St2 → Prop} {v1 v2 : Int64} (hk : dm_kof v1 = 3) (hu : un < B) (hB : B ≤ 64) (h : post 13 (nI B, nI D, xn, xo, xc, xl, oc, nI un, nI D, pk, xr, xw, en, cn, cb, cv, kd, na, nb, se, fn, tg, tn, pF, pS, cT, cB, bo, wN, wF, wB, wV)) : wpX_apply post (nI B, nI D, xn, xo, xc, xl, oc, nI un, nI D, pk, xr, xw, en, cn, cb, cv, kd, na, nb, se, fn, tg, tn, pF, pS, cT, cB, bo, wN, wF, wB, wV) v1 v2 :=
  br_t hk (br_f (fun e => by have := (nI_eq (by omega) (by omega)).mp e; omega) (br_t rfl h))
theorem x_a0 {post : Int32 → St2 → Prop} {v1 v2 : Int64} {p l q z : Nat} (hk : dm_kof v1 = 3) (hd : v1.toInt32 = nI p) (hp : p < 65) (hu : un < B) (hB : B ≤ 64) (ha : a < D) (hD : D ≤ 8) (qT : cT p = nI q) (hq : q < 32) (qL : tn q = nI l) (hl : l < 32) (qS : cB p = nI s) (hs : s ≤ un) (qA : na l = nI y) (hy : y < 8) (qB : kd l = 15 → nb l = nI z) (hz : z < 8)
    (hf : ¬ kd l = 15 → post 0 (nI B, nI D, xn, xo, xc, xl, oc, nI (un + 1), nI (a + 1), dm_pk a pk, xr, xw, 1, nI (l + 1), nI (un + 1), cv, kd, na, nb, se, fn, tg, tn, pF, pS, cT, cB, vp_updL (dm_cp bo s (un + 1) 8) ((un + 1) * 8 + y) v2, wN, wF, wB, wV))
    (hr : kd l = 15 → post 0 (nI B, nI D, xn, xo, xc, xl, oc, nI (un + 1), nI (a + 1), dm_pk a pk, xr, xw, 1, nI (l + 1), nI (un + 1), cv, kd, na, nb, se, fn, tg, tn, pF, pS, cT, cB, vp_updL (vp_updL (dm_cp bo s (un + 1) 8) ((un + 1) * 8 + y) v1) ((un + 1) * 8 + z) v2, wN, wF, wB, wV)) : wpX_apply post (nI B, nI D, xn, xo, xc, xl, oc, nI un, nI a, pk, xr, xw, en, cn, cb, cv, kd, na, nb, se, fn, tg, tn, pF, pS, cT, cB, bo, wN, wF, wB, wV) v1 v2 := by
  have W : ∀ k', k' = dm_pk a pk → wX_apply_78 post v1 v2 (nI B) (nI D) xn xo xc xl oc (nI (un + 1)) (nI (a + 1)) k' xr xw en cn cb cv kd na nb se fn tg tn pF pS cT cB bo wN wF wB wV := by
    rintro k' rfl
    have e1 : ∀ g : Nat → Int32, g v1.toInt32.toNatClampNeg = g p := by
      intro g
      rw [hd, nI_clamp (by omega)]
    have hin : vp_in v1.toInt32 65 := by
      rw [hd]
      exact dm_w65 hp
    refine ⟨hin, ?_⟩
    rw [e1 cT, e1 cB, qT, qS]
    refine ⟨dm_w32 hq, nm_r (dm_at2 (by omega) qL) ⟨hin, x_copy (by omega) (by omega) ⟨dm_w32 hl, ?_⟩⟩⟩
    by_cases c : kd l = 15
    · refine br_t (dm_at2 (by omega) c) ⟨dm_w32 hl, ?_⟩
      rw [dm_at2 (g := na) (by omega) qA]
      refine x_bnd (by omega) hy ⟨dm_w32 hl, ?_⟩
      rw [dm_at2 (g := nb) (by omega) (qB c)]
      refine x_bnd (by omega) hz ?_
      unfold wX_enterBody_98 wpX_firstChild
      rw [nI_1]
      exact hr c
    · refine br_f (by rw [dm_at2 (g := kd) (by omega) rfl]; exact c) ⟨dm_w32 hl, ?_⟩
      rw [dm_at2 (g := na) (by omega) qA]
      refine x_bnd (by omega) hy ?_
      unfold wX_enterBody_98 wpX_firstChild
      rw [nI_1]
      exact hf c
  refine br_t hk (br_f (fun e => by have := (nI_eq (by omega) (by omega)).mp e; omega) (br_f (fun e => by have := (nI_eq (by omega) (by omega)).mp e; omega) (nm_r (nI_1 un) (nm_r (nI_1 a) ?_))))
  by_cases e : nI (a + 1) ≤ pk
  · exact br_t e (W _ (if_pos e).symm)
  · exact br_f e (W _ (if_neg e).symm)
end
