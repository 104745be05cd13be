/-! the runs side by side: a value is found -/
section
variable {kd na nb se fn tg tn : Nat → Int32} {n B D K : Nat} {m : Nat → Int64} {L : Nat → Nat → Nat} {p e c d : Nat} {cn cb : Int32} {cv : Int64} {pF pS : Nat → Int64} {cT cB : Nat → Int32} {bo : Nat → Int64} {wN wF wB : Nat → Int32} {wV : Nat → Int64} {vK vA vB eN eV eX fN fS fE fV : Nat → Int32} {hp ep un a w j gX q : Nat} {i s : Nat}
theorem sF_T (X0 : dm_Fx kd na nb se fn tg tn n B D) (W : dm_Wd kd na nb fn n B hp ep un m L bo vK vA vB pF pS cT cB eN eV eX) (hi : i < n) (qN : fN j = nI i) (hc : c < hp) (qv : cv = m c) (ha1 : a ≤ q) (ha2 : q ≤ un) (ha3 : q ≤ D) (hpot : (p + 1) + 256 * (B - un) + 5 * hp < K + 1) (gx : gX + (K + 1) ≤ 16700) (St : dm_St kd fn n hp ep un m L bo fN fS fE fV wN wF wB wV j w a p) (kT : dm_kT (kd i) (fS j)) (hpos : j ≤ 32 * a + i) (hF : dm_SF kd na nb se fn tg tn n B D K) : dm_H B D (K + 1) gX (dm_en w) (nI B, nI D, nI n, nI (dm_O kd n), 1, nI (dm_cnt kd n), 0, nI un, nI a, nI q, 0, nI w, 0, cn, cb, cv, kd, na, nb, se, fn, tg, tn, pF, pS, cT, cB, bo, wN, wF, wB, wV) := by
  obtain ⟨P, C, b1, b2, d1, d2⟩ := X0
  have T : dm_Tr kd n := ⟨P.2.1, C.1⟩
  have hn := P.1
  have hE1 := dm_E_gt T hi
  have hE2 := dm_E_le T hi
  have hwj := dm_St_le _ _ _ _ St
  have hep := W.2.2.1
  have hun := W.2.2.2
  have hh : hp < 4096 := by omega
  have hj : j < 300 := by omega
  have hc4 : c < 4096 := by omega
  have hk := dm_HC_k (W.1 c hc)
  rw [← qv] at hk
  refine dm_H_y ?_
  exact hF m L p c W St hc qv (by omega) (by omega) (by omega) (by omega) (by omega)
theorem sF_B (X0 : dm_Fx kd na nb se fn tg tn n B D) (W : dm_Wd kd na nb fn n B hp ep un m L bo vK vA vB pF pS cT cB eN eV eX) (hi : i < n) (qN : fN j = nI i) (hc : c < hp) (qv : cv = m c) (ha1 : a + 1 ≤ q) (ha2 : q ≤ un) (ha3 : q ≤ D) (hpot : (p + 1) + 256 * (B - un) + 5 * hp < K + 1) (gx : gX + (K + 1) ≤ 16700) (St : dm_St kd fn n hp ep un m L bo fN fS fE fV wN wF wB wV j w a p) (qK : kd i = 16) (qS : fS j = 3) (qW : wN w = nI i) (qF : wF w = 2) (hpos : j ≤ 32 * a + i) (hF : dm_SF kd na nb se fn tg tn n B D K) : dm_H B D (K + 1) gX (dm_en (w + 1)) (nI B, nI D, nI n, nI (dm_O kd n), 1, nI (dm_cnt kd n), 0, nI un, nI (a + 1), nI q, 0, nI (w + 1), 0, cn, cb, cv, kd, na, nb, se, fn, tg, tn, pF, pS, cT, cB, bo, wN, wF, wB, wV) := by
  obtain ⟨P, C, b1, b2, d1, d2⟩ := X0
  have T : dm_Tr kd n := ⟨P.2.1, C.1⟩
  have hn := P.1
  have hE1 := dm_E_gt T hi
  have hE2 := dm_E_le T hi
  have hwj := dm_St_le _ _ _ _ St
  have hep := W.2.2.1
  have hun := W.2.2.2
  have hh : hp < 4096 := by omega
  have hj : j < 300 := by omega
  have hc4 : c < 4096 := by omega
  have hk := dm_HC_k (W.1 c hc)
  rw [← qv] at hk
  refine dm_H_s (fun post m h => x_lF (by omega) (x_r_body (by omega) qW (by omega) qF qK (x_7F (by omega) h))) ?_
  exact hF m L p c W St hc qv (by omega) (by omega) (by omega) (by omega) (by omega)
theorem sF_if (X0 : dm_Fx kd na nb se fn tg tn n B D) (W : dm_Wd kd na nb fn n B hp ep un m L bo vK vA vB pF pS cT cB eN eV eX) (hi : i < n) (qN : fN j = nI i) (hc : c < hp) (qv : cv = m c) (ha1 : a ≤ q) (ha2 : q ≤ un) (ha3 : q ≤ D) (hpot : (p + 7 + 8 * (dm_E kd i - dm_E kd (i + 1))) + 256 * (B - un) + 5 * hp < K + 1) (gx : gX + (K + 1) ≤ 16700) (St : dm_St kd fn n hp ep un m L bo fN fS fE fV wN wF wB wV j w a p) (qS : fS j = 1) (qW : wN w = nI i) (qF : wF w = 0) (qE : fE j = dm_eI e) (qB : wB w = nI s) (he : e ≤ ep) (hs : s ≤ un) (EO : dm_EO hp m (L e) (fun x => bo (s * 8 + x)) (fun x => bt (fn i) x = true)) (hpos : j ≤ 32 * a + i) (qK : kd i = 9) (hE : dm_SE kd na nb se fn tg tn n B D K) : dm_H B D (K + 1) gX (dm_en (w + 1)) (nI B, nI D, nI n, nI (dm_O kd n), 1, nI (dm_cnt kd n), 0, nI un, nI a, nI q, 0, nI (w + 1), 0, cn, cb, cv, kd, na, nb, se, fn, tg, tn, pF, pS, cT, cB, bo, wN, wF, wB, wV) := by
  obtain ⟨P, C, b1, b2, d1, d2⟩ := X0
  have T : dm_Tr kd n := ⟨P.2.1, C.1⟩
  have hn := P.1
  have hE1 := dm_E_gt T hi
  have hE2 := dm_E_le T hi
  have hwj := dm_St_le _ _ _ _ St
  have hep := W.2.2.1
  have hun := W.2.2.2
  have hh : hp < 4096 := by omega
  have hj : j < 300 := by omega
  have hc4 : c < 4096 := by omega
  have hk := dm_HC_k (W.1 c hc)
  rw [← qv] at hk
  have ar3 : dm_ar (kd i) = 3 := by
    rw [qK]
    decide
  have h0 := dm_ch_lt T hi (c := 0) (by omega)
  rw [dm_ch0] at h0
  have h1 := dm_ch_lt T hi (c := 1) (by omega)
  by_cases k1 : vK c = 1
  · have ev : cv.toInt32 = vA c := by
      rw [qv]
      exact dm_HC_i (W.1 c hc) k1
    obtain ⟨b, hb, hb2⟩ : ∃ b, ((vA c = 0 ∧ b = 2) ∨ (¬ vA c = 0 ∧ b = 1)) ∧ (b = 1 ∨ b = 2) := by
      by_cases z : vA c = 0
      · exact ⟨2, Or.inl ⟨z, rfl⟩, Or.inr rfl⟩
      · exact ⟨1, Or.inr ⟨z, rfl⟩, Or.inl rfl⟩
    have hbl := dm_ch_lt T hi (c := b) (by omega)
    have hbg := dm_ch_gt T hi (c := b) (by omega)
    have hbE := dm_ch_in T hi (c := b) (by omega)
    have hbm := dm_ch_mono T hi b 0 (by omega) (by omega)
    rw [dm_ch0] at hbm
    have hbgt := dm_E_gt T hbl
    have St2 := dm_St_x (fN' := upd fN (j + 1) (nI (dm_ch kd i b))) (fS' := upd (upd fS j 2) (j + 1) 0) (fE' := upd fE (j + 1) (dm_eI e)) (fV' := upd fV (j + 1) (-1)) (dm_Ex_r (hp := hp) (ep := ep) (un := un) (m := m) (bo := bo) (L := L)) j w a p (fun q hq => ⟨pk_un (by omega), by rw [pk_un (by omega), pk_un (by omega)], pk_un (by omega), pk_un (by omega)⟩) (fun _ _ => ⟨rfl, rfl, rfl, rfl⟩) St
    refine dm_H_s (fun post m h => x_lF (by omega) (x_r_if hn h0 h1 C.2.1 (by omega) qW qK (by rw [hk, k1]) (by rw [ev]; exact hb) (x_7E h))) ?_
    rw [qB]
    refine hE m L (p + 1) e W (dm_St_T St2 hi (by rw [pk_un (by omega), qN]) (Or.inl ⟨qK, by rw [pk_un (by omega), pk_us]⟩) hpos) hbl pk_us pk_us pk_us he hs ?_ (by omega) (by omega) (by omega) (by omega) (by omega) (by omega)
    refine dm_EO_w EO (fun x hx hw => (C.2.2.1 i hi x (by omega)).mpr (Or.inr ⟨b, by omega, hw, ?_⟩))
    rintro (⟨g, _⟩ | ⟨g, _⟩ | ⟨g, _⟩) <;> rw [qK] at g <;> exact absurd g (by decide)
  · refine dm_H_e (by omega) ?_ (fun post m h => x_lF (by omega) (x_r_if8 (by omega) qW (by omega) qK (by rw [hk]; exact k1) (x_7e (by decide) h)))
    exact ⟨n, q, _, rfl, rfl, rfl, rfl, rfl, rfl, ha2, by omega, ha3, fun g => absurd g (by decide), fun g => absurd g (by decide), b1, b2, d1, d2, P, Or.inr ⟨rfl, rfl, C, dm_R10⟩⟩
theorem sF_fst (X0 : dm_Fx kd na nb se fn tg tn n B D) (W : dm_Wd kd na nb fn n B hp ep un m L bo vK vA vB pF pS cT cB eN eV eX) (hi : i < n) (qN : fN j = nI i) (hc : c < hp) (qv : cv = m c) (ha1 : a ≤ q) (ha2 : q ≤ un) (ha3 : q ≤ D) (hpot : (p + 7 + 8 * (dm_E kd i - dm_E kd (i + 1))) + 256 * (B - un) + 5 * hp < K + 1) (gx : gX + (K + 1) ≤ 16700) (St : dm_St kd fn n hp ep un m L bo fN fS fE fV wN wF wB wV j w a p) (qS : fS j = 1) (qW : wN w = nI i) (qF : wF w = 0) (qE : fE j = dm_eI e) (qB : wB w = nI s) (he : e ≤ ep) (hs : s ≤ un) (EO : dm_EO hp m (L e) (fun x => bo (s * 8 + x)) (fun x => bt (fn i) x = true)) (hpos : j ≤ 32 * a + i) (qK : kd i = 11) (hF : dm_SF kd na nb se fn tg tn n B D K) : dm_H B D (K + 1) gX (dm_en (w + 1)) (nI B, nI D, nI n, nI (dm_O kd n), 1, nI (dm_cnt kd n), 0, nI un, nI a, nI q, 0, nI (w + 1), 0, cn, cb, cv, kd, na, nb, se, fn, tg, tn, pF, pS, cT, cB, bo, wN, wF, wB, wV) := by
  obtain ⟨P, C, b1, b2, d1, d2⟩ := X0
  have T : dm_Tr kd n := ⟨P.2.1, C.1⟩
  have hn := P.1
  have hE1 := dm_E_gt T hi
  have hE2 := dm_E_le T hi
  have hwj := dm_St_le _ _ _ _ St
  have hep := W.2.2.1
  have hun := W.2.2.2
  have hh : hp < 4096 := by omega
  have hj : j < 300 := by omega
  have hc4 : c < 4096 := by omega
  have hk := dm_HC_k (W.1 c hc)
  rw [← qv] at hk
  by_cases k2 : vK c = 2
  · obtain ⟨p1, a1, c1, t1, t2, t3, t4, t5, t6, t7, t8, t9⟩ := dm_HC_p (W.1 c hc) k2
    have ev : cv.toInt32 = nI p1 := by
      rw [qv]
      exact t5
    refine dm_H_s (fun post m h => x_lF (by omega) (x_r_fst (by omega) qW (by omega) qK (by rw [hk, k2]) ev (by omega) (x_7F (by omega) h))) ?_
    exact hF m L p a1 W St (by omega) t8 (by omega) (by omega) (by omega) (by omega) (by omega)
  · refine dm_H_e (by omega) ?_ (fun post m h => x_lF (by omega) (x_r_part10 (by omega) qW (by omega) (Or.inl qK) (by rw [hk]; exact k2) (x_7e (by decide) h)))
    exact ⟨n, q, _, rfl, rfl, rfl, rfl, rfl, rfl, ha2, by omega, ha3, fun g => absurd g (by decide), fun g => absurd g (by decide), b1, b2, d1, d2, P, Or.inr ⟨rfl, rfl, C, dm_R10⟩⟩
theorem sF_snd (X0 : dm_Fx kd na nb se fn tg tn n B D) (W : dm_Wd kd na nb fn n B hp ep un m L bo vK vA vB pF pS cT cB eN eV eX) (hi : i < n) (qN : fN j = nI i) (hc : c < hp) (qv : cv = m c) (ha1 : a ≤ q) (ha2 : q ≤ un) (ha3 : q ≤ D) (hpot : (p + 7 + 8 * (dm_E kd i - dm_E kd (i + 1))) + 256 * (B - un) + 5 * hp < K + 1) (gx : gX + (K + 1) ≤ 16700) (St : dm_St kd fn n hp ep un m L bo fN fS fE fV wN wF wB wV j w a p) (qS : fS j = 1) (qW : wN w = nI i) (qF : wF w = 0) (qE : fE j = dm_eI e) (qB : wB w = nI s) (he : e ≤ ep) (hs : s ≤ un) (EO : dm_EO hp m (L e) (fun x => bo (s * 8 + x)) (fun x => bt (fn i) x = true)) (hpos : j ≤ 32 * a + i) (qK : kd i = 12) (hF : dm_SF kd na nb se fn tg tn n B D K) : dm_H B D (K + 1) gX (dm_en (w + 1)) (nI B, nI D, nI n, nI (dm_O kd n), 1, nI (dm_cnt kd n), 0, nI un, nI a, nI q, 0, nI (w + 1), 0, cn, cb, cv, kd, na, nb, se, fn, tg, tn, pF, pS, cT, cB, bo, wN, wF, wB, wV) := by
  obtain ⟨P, C, b1, b2, d1, d2⟩ := X0
  have T : dm_Tr kd n := ⟨P.2.1, C.1⟩
  have hn := P.1
  have hE1 := dm_E_gt T hi
  have hE2 := dm_E_le T hi
  have hwj := dm_St_le _ _ _ _ St
  have hep := W.2.2.1
  have hun := W.2.2.2
  have hh : hp < 4096 := by omega
  have hj : j < 300 := by omega
  have hc4 : c < 4096 := by omega
  have hk := dm_HC_k (W.1 c hc)
  rw [← qv] at hk
  by_cases k2 : vK c = 2
  · obtain ⟨p1, a1, c1, t1, t2, t3, t4, t5, t6, t7, t8, t9⟩ := dm_HC_p (W.1 c hc) k2
    have ev : cv.toInt32 = nI p1 := by
      rw [qv]
      exact t5
    refine dm_H_s (fun post m h => x_lF (by omega) (x_r_snd (by omega) qW (by omega) qK (by rw [hk, k2]) ev (by omega) (x_7F (by omega) h))) ?_
    exact hF m L p c1 W St (by omega) t9 (by omega) (by omega) (by omega) (by omega) (by omega)
  · refine dm_H_e (by omega) ?_ (fun post m h => x_lF (by omega) (x_r_part10 (by omega) qW (by omega) (Or.inr qK) (by rw [hk]; exact k2) (x_7e (by decide) h)))
    exact ⟨n, q, _, rfl, rfl, rfl, rfl, rfl, rfl, ha2, by omega, ha3, fun g => absurd g (by decide), fun g => absurd g (by decide), b1, b2, d1, d2, P, Or.inr ⟨rfl, rfl, C, dm_R10⟩⟩
theorem sF_let (X0 : dm_Fx kd na nb se fn tg tn n B D) (W : dm_Wd kd na nb fn n B hp ep un m L bo vK vA vB pF pS cT cB eN eV eX) (hi : i < n) (qN : fN j = nI i) (hc : c < hp) (qv : cv = m c) (ha1 : a ≤ q) (ha2 : q ≤ un) (ha3 : q ≤ D) (hpot : (p + 7 + 8 * (dm_E kd i - dm_E kd (i + 1))) + 256 * (B - un) + 5 * hp < K + 1) (gx : gX + (K + 1) ≤ 16700) (St : dm_St kd fn n hp ep un m L bo fN fS fE fV wN wF wB wV j w a p) (qS : fS j = 1) (qW : wN w = nI i) (qF : wF w = 0) (qE : fE j = dm_eI e) (qB : wB w = nI s) (he : e ≤ ep) (hs : s ≤ un) (EO : dm_EO hp m (L e) (fun x => bo (s * 8 + x)) (fun x => bt (fn i) x = true)) (hpos : j ≤ 32 * a + i) (qK : kd i = 14) (hE : dm_SE kd na nb se fn tg tn n B D K) : dm_H B D (K + 1) gX (dm_en (w + 1)) (nI B, nI D, nI n, nI (dm_O kd n), 1, nI (dm_cnt kd n), 0, nI un, nI a, nI q, 0, nI (w + 1), 0, cn, cb, cv, kd, na, nb, se, fn, tg, tn, pF, pS, cT, cB, bo, wN, wF, wB, wV) := by
  obtain ⟨P, C, b1, b2, d1, d2⟩ := X0
  have T : dm_Tr kd n := ⟨P.2.1, C.1⟩
  have hn := P.1
  have hE1 := dm_E_gt T hi
  have hE2 := dm_E_le T hi
  have hwj := dm_St_le _ _ _ _ St
  have hep := W.2.2.1
  have hun := W.2.2.2
  have hh : hp < 4096 := by omega
  have hj : j < 300 := by omega
  have hc4 : c < 4096 := by omega
  have hk := dm_HC_k (W.1 c hc)
  rw [← qv] at hk
  obtain ⟨y, hy, ey⟩ := (P.2.2 i hi).2.1 (Or.inr (Or.inr (Or.inl qK)))
  have ar2 : dm_ar (kd i) = 2 := by
    rw [qK]
    decide
  have h0 := dm_ch_lt T hi (c := 0) (by omega)
  rw [dm_ch0] at h0
  have h1 := dm_ch_lt T hi (c := 1) (by omega)
  have h1g := dm_ch_gt T hi (c := 1) (by omega)
  have h1E := dm_ch_in T hi (c := 1) (by omega)
  have h1m := dm_ch_mono T hi 1 0 (by omega) (by omega)
  rw [dm_ch0] at h1m
  have h1gt := dm_E_gt T h1
  by_cases hu : un < B
  · obtain ⟨X, W1⟩ := dm_Wd_unit (bo' := vp_updL (dm_cp bo s (un + 1) 8) ((un + 1) * 8 + y) cv) (pF' := pF) (pS' := pS) (cT' := cT) (cB' := cB) W hu (fun k hk => by rw [dm_b1_lo hk, dm_cp_lo hk]) (fun _ _ => rfl) (fun _ _ => rfl) (fun _ _ => rfl) (fun _ _ => rfl)
    obtain ⟨X2, W3⟩ := dm_Wd_env W1 hy hc he (by omega)
    have X3 := dm_Ex_t X X2
    have St2 := dm_St_x (fN' := upd fN (j + 1) (nI (dm_ch kd i 1))) (fS' := upd (upd fS j 2) (j + 1) 0) (fE' := upd fE (j + 1) (nI ep)) (fV' := upd fV (j + 1) (-1)) X3 j w a p (fun q hq => ⟨pk_un (by omega), by rw [pk_un (by omega), pk_un (by omega)], pk_un (by omega), pk_un (by omega)⟩) (fun _ _ => ⟨rfl, rfl, rfl, rfl⟩) St
    refine dm_H_s (fun post m h => x_lF (by omega) (x_r_let hn h0 (C.2.1 _ h0) (by omega) qW qB qK ey hy hs hu b2 (x_7E h))) ?_
    refine hE _ _ (p + 1) (ep + 1) W3 (dm_St_T St2 hi (by rw [pk_un (by omega), qN]) (Or.inr (Or.inl ⟨qK, by rw [pk_un (by omega), pk_us]⟩)) hpos) h1 pk_us pk_us (by rw [pk_us, dm_eIs]) (Nat.le_refl _) (Nat.le_refl _) ?_ (by omega) (by omega) (by omega) (by omega) (by omega) (by omega)
    refine dm_EO_b (y := y) (c0 := c) (Le := L e) (bs := fun x => bo (s * 8 + x)) ?_ hc (fun x hx => dm_Ls_n) (fun x hx => ?_)
    · refine dm_EO_w EO (fun x hx hw => ?_)
      exact (C.2.2.1 i hi x (by omega)).mpr (Or.inr ⟨1, by omega, hw.1, dm_nb1 ey hx hy hw.2⟩)
    · rw [dm_b1_in, dm_cp_in hx, qv]
  · have eu : un = B := by omega
    subst eu
    refine dm_H_e (by omega) ?_ (fun post m h => x_lF (by omega) (x_r_let12 (by omega) qW (by omega) qK (x_7e (by decide) h)))
    exact ⟨n, q, _, rfl, rfl, rfl, rfl, rfl, rfl, ha2, by omega, ha3, fun _ => rfl, fun g => absurd g (by decide), b1, b2, d1, d2, P, Or.inr ⟨rfl, rfl, C, dm_R10⟩⟩
theorem sF_one (X0 : dm_Fx kd na nb se fn tg tn n B D) (W : dm_Wd kd na nb fn n B hp ep un m L bo vK vA vB pF pS cT cB eN eV eX) (hi : i < n) (qN : fN j = nI i) (hc : c < hp) (qv : cv = m c) (ha1 : a ≤ q) (ha2 : q ≤ un) (ha3 : q ≤ D) (hpot : (p + 7 + 8 * (dm_E kd i - dm_E kd (i + 1))) + 256 * (B - un) + 5 * hp < K + 1) (gx : gX + (K + 1) ≤ 16700) (St : dm_St kd fn n hp ep un m L bo fN fS fE fV wN wF wB wV j w a p) (qS : fS j = 1) (qW : wN w = nI i) (qF : wF w = 0) (qE : fE j = dm_eI e) (qB : wB w = nI s) (he : e ≤ ep) (hs : s ≤ un) (EO : dm_EO hp m (L e) (fun x => bo (s * 8 + x)) (fun x => bt (fn i) x = true)) (hpos : j ≤ 32 * a + i) (kS : dm_kS (kd i)) (hE : dm_SE kd na nb se fn tg tn n B D K) : dm_H B D (K + 1) gX (dm_en (w + 1)) (nI B, nI D, nI n, nI (dm_O kd n), 1, nI (dm_cnt kd n), 0, nI un, nI a, nI q, 0, nI (w + 1), 0, cn, cb, cv, kd, na, nb, se, fn, tg, tn, pF, pS, cT, cB, bo, wN, wF, wB, wV) := by
  obtain ⟨P, C, b1, b2, d1, d2⟩ := X0
  have T : dm_Tr kd n := ⟨P.2.1, C.1⟩
  have hn := P.1
  have hE1 := dm_E_gt T hi
  have hE2 := dm_E_le T hi
  have hwj := dm_St_le _ _ _ _ St
  have hep := W.2.2.1
  have hun := W.2.2.2
  have hh : hp < 4096 := by omega
  have hj : j < 300 := by omega
  have hc4 : c < 4096 := by omega
  have hk := dm_HC_k (W.1 c hc)
  rw [← qv] at hk
  have ar2 := dm_kS_ar kS
  have h0 := dm_ch_lt T hi (c := 0) (by omega)
  rw [dm_ch0] at h0
  have h1 := dm_ch_lt T hi (c := 1) (by omega)
  have h1g := dm_ch_gt T hi (c := 1) (by omega)
  have h1E := dm_ch_in T hi (c := 1) (by omega)
  have h1m := dm_ch_mono T hi 1 0 (by omega) (by omega)
  rw [dm_ch0] at h1m
  have h1gt := dm_E_gt T h1
  have St2 := dm_St_x (fN' := upd fN (j + 1) (nI (dm_ch kd i 1))) (fS' := upd (upd fS j 2) (j + 1) 0) (fE' := upd fE (j + 1) (dm_eI e)) (fV' := upd (upd fV j (nI c)) (j + 1) (-1)) (wN' := wN) (wF' := upd wF w 1) (wB' := wB) (wV' := vp_updL wV w cv) (dm_Ex_r (hp := hp) (ep := ep) (un := un) (m := m) (bo := bo) (L := L)) j w a p (fun q hq => ⟨pk_un (by omega), by rw [pk_un (by omega), pk_un (by omega)], pk_un (by omega), by rw [pk_un (by omega), pk_un (by omega)]⟩) (fun q hq => ⟨rfl, pk_un (by omega), rfl, pk_uLn (by omega)⟩) St
  refine dm_H_s (fun post m h => x_lF (by omega) (x_r_one hn h0 (C.2.1 _ h0) (by omega) qW qF kS (x_7E h))) ?_
  rw [qB]
  refine hE m L (p + 6) e W (dm_St_S St2 hi (by rw [pk_un (by omega), qN]) (by rw [pk_un (by omega), pk_us]) kS qW pk_us hc (by rw [pk_un (by omega), pk_us]) (by rw [pk_uLs, qv]) hpos) h1 pk_us pk_us pk_us he hs ?_ (by omega) (by omega) (by omega) (by omega) (by omega) (by omega)
  obtain ⟨n1, n2, n13, n15, n9, n11, n12, n14⟩ := dm_kS_n kS
  refine dm_EO_w EO (fun x hx hw => (C.2.2.1 i hi x (by omega)).mpr (Or.inr ⟨1, by omega, hw, ?_⟩))
  rintro (⟨g, _⟩ | ⟨g, _⟩ | ⟨g, _⟩)
  · exact n13 g
  · exact n14 g
  · exact n15 g
theorem sF_pair (X0 : dm_Fx kd na nb se fn tg tn n B D) (W : dm_Wd kd na nb fn n B hp ep un m L bo vK vA vB pF pS cT cB eN eV eX) (hi : i < n) (qN : fN j = nI i) (hc : c < hp) (qv : cv = m c) (ha1 : a ≤ q) (ha2 : q ≤ un) (ha3 : q ≤ D) (hpot : (p + 6) + 256 * (B - un) + 5 * hp < K + 1) (gx : gX + (K + 1) ≤ 16700) (St : dm_St kd fn n hp ep un m L bo fN fS fE fV wN wF wB wV j w a p) (qS : fS j = 2) (qW : wN w = nI i) (qF : wF w = 1) (hd : d < hp) (qV : fV j = nI d) (qX : wV w = m d) (hpos : j ≤ 32 * a + i) (qK : kd i = 10) (hF : dm_SF kd na nb se fn tg tn n B D K) : dm_H B D (K + 1) gX (dm_en (w + 1)) (nI B, nI D, nI n, nI (dm_O kd n), 1, nI (dm_cnt kd n), 0, nI un, nI a, nI q, 0, nI (w + 1), 0, cn, cb, cv, kd, na, nb, se, fn, tg, tn, pF, pS, cT, cB, bo, wN, wF, wB, wV) := by
  obtain ⟨P, C, b1, b2, d1, d2⟩ := X0
  have T : dm_Tr kd n := ⟨P.2.1, C.1⟩
  have hn := P.1
  have hE1 := dm_E_gt T hi
  have hE2 := dm_E_le T hi
  have hwj := dm_St_le _ _ _ _ St
  have hep := W.2.2.1
  have hun := W.2.2.2
  have hh : hp < 4096 := by omega
  have hj : j < 300 := by omega
  have hc4 : c < 4096 := by omega
  have hk := dm_HC_k (W.1 c hc)
  rw [← qv] at hk
  have hd4 : d < 4096 := by omega
  have hk2 := dm_HC_k (W.1 d hd)
  rw [← qX] at hk2
  by_cases hu : un < B
  · obtain ⟨X, W2⟩ := dm_Wd_pair W hu hd hc
    rw [← qX, ← qv] at W2
    have St2 := dm_St_x X j w a p (fun _ _ => ⟨rfl, rfl, rfl, rfl⟩) (fun _ _ => ⟨rfl, rfl, rfl, rfl⟩) St
    refine dm_H_s (fun post m h => x_lF (by omega) (x_r_pair (by omega) qW (by omega) qF qK hu b2 (x_7F (by omega) h))) ?_
    exact hF _ L p hp W2 St2 (by omega) pk_uLs.symm (by omega) (by omega) (by omega) (by omega) (by omega)
  · have eu : un = B := by omega
    subst eu
    refine dm_H_e (by omega) ?_ (fun post m h => x_lF (by omega) (x_r_pair12 (by omega) qW (by omega) qF qK (x_7e (by decide) h)))
    exact ⟨n, q, _, rfl, rfl, rfl, rfl, rfl, rfl, ha2, by omega, ha3, fun _ => rfl, fun g => absurd g (by decide), b1, b2, d1, d2, P, Or.inr ⟨rfl, rfl, C, dm_R10⟩⟩
theorem sF_bin (X0 : dm_Fx kd na nb se fn tg tn n B D) (W : dm_Wd kd na nb fn n B hp ep un m L bo vK vA vB pF pS cT cB eN eV eX) (hi : i < n) (qN : fN j = nI i) (hc : c < hp) (qv : cv = m c) (ha1 : a ≤ q) (ha2 : q ≤ un) (ha3 : q ≤ D) (hpot : (p + 6) + 256 * (B - un) + 5 * hp < K + 1) (gx : gX + (K + 1) ≤ 16700) (St : dm_St kd fn n hp ep un m L bo fN fS fE fV wN wF wB wV j w a p) (qS : fS j = 2) (qW : wN w = nI i) (qF : wF w = 1) (hd : d < hp) (qV : fV j = nI d) (qX : wV w = m d) (hpos : j ≤ 32 * a + i) (kB : dm_kB (kd i)) (hF : dm_SF kd na nb se fn tg tn n B D K) : dm_H B D (K + 1) gX (dm_en (w + 1)) (nI B, nI D, nI n, nI (dm_O kd n), 1, nI (dm_cnt kd n), 0, nI un, nI a, nI q, 0, nI (w + 1), 0, cn, cb, cv, kd, na, nb, se, fn, tg, tn, pF, pS, cT, cB, bo, wN, wF, wB, wV) := by
  obtain ⟨P, C, b1, b2, d1, d2⟩ := X0
  have T : dm_Tr kd n := ⟨P.2.1, C.1⟩
  have hn := P.1
  have hE1 := dm_E_gt T hi
  have hE2 := dm_E_le T hi
  have hwj := dm_St_le _ _ _ _ St
  have hep := W.2.2.1
  have hun := W.2.2.2
  have hh : hp < 4096 := by omega
  have hj : j < 300 := by omega
  have hc4 : c < 4096 := by omega
  have hk := dm_HC_k (W.1 c hc)
  rw [← qv] at hk
  have hd4 : d < 4096 := by omega
  have hk2 := dm_HC_k (W.1 d hd)
  rw [← qX] at hk2
  by_cases kd1 : vK d = 1
  · by_cases kc1 : vK c = 1
    · have e1 : (wV w).toInt32 = vA d := by
        rw [qX]
        exact dm_HC_i (W.1 d hd) kd1
      have e2 : cv.toInt32 = vA c := by
        rw [qv]
        exact dm_HC_i (W.1 c hc) kc1
      by_cases dz : kd i = 6 ∧ vA c = 0
      · refine dm_H_e (by omega) ?_ (fun post m h => x_lF (by omega) (x_r_bin (by omega) qW (by omega) qF kB (by rw [dz.1]; exact x_b11 (by rw [hk2, kd1]) (by rw [hk, kc1]) (by rw [e2]; exact dz.2) (x_7e (by decide) h))))
        exact ⟨n, q, _, rfl, rfl, rfl, rfl, rfl, rfl, ha2, by omega, ha3, fun g => absurd g (by decide), fun g => absurd g (by decide), b1, b2, d1, d2, P, Or.inr ⟨rfl, rfl, C, dm_R10⟩⟩
      · obtain ⟨X, W2⟩ := dm_Wd_int W (dm_bin (kd i) (vA d) (vA c)) 0
        have St2 := dm_St_x X j w a p (fun _ _ => ⟨rfl, rfl, rfl, rfl⟩) (fun _ _ => ⟨rfl, rfl, rfl, rfl⟩) St
        refine dm_H_s (fun post m h => x_lF (by omega) (x_r_bin (by omega) qW (by omega) qF kB (x_b (by rw [hk2, kd1]) (by rw [hk, kc1]) (by rw [e2]; exact dz) kB (x_7F (by omega) h)))) ?_
        rw [e1, e2]
        exact hF _ L p hp W2 St2 (by omega) pk_uLs.symm (by omega) (by omega) (by omega) (by omega) (by omega)
    · refine dm_H_e (by omega) ?_ (fun post m h => x_lF (by omega) (x_r_bin (by omega) qW (by omega) qF kB (x_b8b (by rw [hk2, kd1]) (by rw [hk]; exact kc1) (x_7e (by decide) h))))
      exact ⟨n, q, _, rfl, rfl, rfl, rfl, rfl, rfl, ha2, by omega, ha3, fun g => absurd g (by decide), fun g => absurd g (by decide), b1, b2, d1, d2, P, Or.inr ⟨rfl, rfl, C, dm_R10⟩⟩
  · refine dm_H_e (by omega) ?_ (fun post m h => x_lF (by omega) (x_r_bin (by omega) qW (by omega) qF kB (x_b8a (by rw [hk2]; exact kd1) (x_7e (by decide) h))))
    exact ⟨n, q, _, rfl, rfl, rfl, rfl, rfl, rfl, ha2, by omega, ha3, fun g => absurd g (by decide), fun g => absurd g (by decide), b1, b2, d1, d2, P, Or.inr ⟨rfl, rfl, C, dm_R10⟩⟩
theorem sF_app (X0 : dm_Fx kd na nb se fn tg tn n B D) (W : dm_Wd kd na nb fn n B hp ep un m L bo vK vA vB pF pS cT cB eN eV eX) (hi : i < n) (qN : fN j = nI i) (hc : c < hp) (qv : cv = m c) (ha1 : a ≤ q) (ha2 : q ≤ un) (ha3 : q ≤ D) (hpot : (p + 6) + 256 * (B - un) + 5 * hp < K + 1) (gx : gX + (K + 1) ≤ 16700) (St : dm_St kd fn n hp ep un m L bo fN fS fE fV wN wF wB wV j w a p) (qS : fS j = 2) (qW : wN w = nI i) (qF : wF w = 1) (hd : d < hp) (qV : fV j = nI d) (qX : wV w = m d) (hpos : j ≤ 32 * a + i) (qK : kd i = 16) (hE : dm_SE kd na nb se fn tg tn n B D K) : dm_H B D (K + 1) gX (dm_en (w + 1)) (nI B, nI D, nI n, nI (dm_O kd n), 1, nI (dm_cnt kd n), 0, nI un, nI a, nI q, 0, nI (w + 1), 0, cn, cb, cv, kd, na, nb, se, fn, tg, tn, pF, pS, cT, cB, bo, wN, wF, wB, wV) := by
  obtain ⟨P, C, b1, b2, d1, d2⟩ := X0
  have T : dm_Tr kd n := ⟨P.2.1, C.1⟩
  have hn := P.1
  have hE1 := dm_E_gt T hi
  have hE2 := dm_E_le T hi
  have hwj := dm_St_le _ _ _ _ St
  have hep := W.2.2.1
  have hun := W.2.2.2
  have hh : hp < 4096 := by omega
  have hj : j < 300 := by omega
  have hc4 : c < 4096 := by omega
  have hk := dm_HC_k (W.1 c hc)
  rw [← qv] at hk
  have hd4 : d < 4096 := by omega
  have hk2 := dm_HC_k (W.1 d hd)
  rw [← qX] at hk2
  by_cases k3 : vK d = 3
  · by_cases hu : un < B
    · by_cases hd3 : a < D
      · obtain ⟨q2, eq, r1, r2, r3, r4⟩ := dm_pkN ha1 ha2 ha3 hd3 d2
        obtain ⟨p1, l, e, s, t1, t2, hl, kl, he, hs, t3, t4, t5, t6, t7, EO⟩ := dm_HC_f (W.1 d hd) k3
        have ed : (wV w).toInt32 = nI p1 := by
          rw [qX]
          exact t3
        obtain ⟨y, hy, ey⟩ := (P.2.2 l hl).2.1 (by rcases kl with g | g <;> simp [g])
        have arl : 0 < dm_ar (kd l) := by
          rcases kl with g | g <;> rw [g] <;> decide
        have hl1 := dm_ch_lt T hl (c := 0) arl
        rw [dm_ch0] at hl1
        have hlE := dm_E_le T hl1
        have hlg := dm_E_gt T hl1
        have hcl := dm_cnt_le kd l
        have qL := (C.2.2.2.2 l hl kl).2
        by_cases k15 : kd l = 15
        · obtain ⟨z, hz, ez⟩ := (P.2.2 l hl).2.2 k15
          obtain ⟨X, W1⟩ := dm_Wd_unit (bo' := vp_updL (vp_updL (dm_cp bo s (un + 1) 8) ((un + 1) * 8 + y) (wV w)) ((un + 1) * 8 + z) cv) (pF' := pF) (pS' := pS) (cT' := cT) (cB' := cB) W hu (fun k hk => by rw [dm_b1_lo hk, dm_b1_lo hk, dm_cp_lo hk]) (fun _ _ => rfl) (fun _ _ => rfl) (fun _ _ => rfl) (fun _ _ => rfl)
          obtain ⟨X2, W2⟩ := dm_Wd_env W1 hy hd he (by omega)
          obtain ⟨X4, W3⟩ := dm_Wd_env (q := ep + 1) W2 hz hc (Nat.le_refl _) (by omega)
          have X3 := dm_Ex_t (dm_Ex_t X X2) X4
          rw [dm_eIs] at W3
          have St2 := dm_St_x (fN' := upd fN (j + 1) (nI (l + 1))) (fS' := upd (upd fS j 3) (j + 1) 0) (fE' := upd fE (j + 1) (nI (ep + 1))) (fV' := upd fV (j + 1) (-1)) (wN' := wN) (wF' := upd wF w 2) (wB' := wB) (wV' := wV) X3 j w a p (fun q hq => ⟨pk_un (by omega), by rw [pk_un (by omega), pk_un (by omega)], pk_un (by omega), pk_un (by omega)⟩) (fun q hq => ⟨rfl, pk_un (by omega), rfl, rfl⟩) St
          refine dm_H_s (fun post m h => x_lF (by omega) (x_r_app (by omega) qW (by omega) qF qK (x_a0 (by rw [hk2, k3]) ed (by omega) hu b2 hd3 d2 t6 (by omega) qL (by omega) t7 hs ey hy (fun _ => ez) hz (fun g => absurd k15 g) (fun _ => x_7E h)))) ?_
          rw [eq]
          refine hE _ _ (p + 1) (ep + 1 + 1) W3 (dm_St_B St2 hi (by rw [pk_un (by omega), qN]) qK (by rw [pk_un (by omega), pk_us]) qW pk_us hpos) hl1 pk_us pk_us (by rw [pk_us, dm_eIs]) (Nat.le_refl _) (Nat.le_refl _) ?_ (by omega) (by omega) (by omega) (by omega) (by omega) (by omega)
          refine dm_EO_b (y := z) (c0 := c) (Le := fun x => if x = y then d + 1 else L e x) (bs := fun x => if x = y then m d else bo (s * 8 + x)) ?_ hc (fun x hx => ?_) (fun x hx => ?_)
          · refine dm_EO_b (y := y) (c0 := d) (Le := L e) (bs := fun x => bo (s * 8 + x)) ?_ hd (fun x hx => rfl) (fun x hx => rfl)
            exact dm_EO_w EO (fun x hx hw => ⟨hw.1.1, dm_nbr k15 ey ez hx hy hz hw.2 hw.1.2⟩)
          · rw [dm_Ls_n, dm_Ls_n]
          · rw [dm_b1_in, dm_b1_in, dm_cp_in hx, qv, qX]
        · obtain ⟨X, W1⟩ := dm_Wd_unit (bo' := vp_updL (dm_cp bo s (un + 1) 8) ((un + 1) * 8 + y) cv) (pF' := pF) (pS' := pS) (cT' := cT) (cB' := cB) W hu (fun k hk => by rw [dm_b1_lo hk, dm_cp_lo hk]) (fun _ _ => rfl) (fun _ _ => rfl) (fun _ _ => rfl) (fun _ _ => rfl)
          obtain ⟨X2, W3⟩ := dm_Wd_env W1 hy hc he (by omega)
          have X3 := dm_Ex_t X X2
          have St2 := dm_St_x (fN' := upd fN (j + 1) (nI (l + 1))) (fS' := upd (upd fS j 3) (j + 1) 0) (fE' := upd fE (j + 1) (nI ep)) (fV' := upd fV (j + 1) (-1)) (wN' := wN) (wF' := upd wF w 2) (wB' := wB) (wV' := wV) X3 j w a p (fun q hq => ⟨pk_un (by omega), by rw [pk_un (by omega), pk_un (by omega)], pk_un (by omega), pk_un (by omega)⟩) (fun q hq => ⟨rfl, pk_un (by omega), rfl, rfl⟩) St
          refine dm_H_s (fun post m h => x_lF (by omega) (x_r_app (by omega) qW (by omega) qF qK (x_a0 (z := 0) (by rw [hk2, k3]) ed (by omega) hu b2 hd3 d2 t6 (by omega) qL (by omega) t7 hs ey hy (fun g => absurd g k15) (by omega) (fun _ => x_7E h) (fun g => absurd g k15)))) ?_
          rw [eq]
          refine hE _ _ (p + 1) (ep + 1) W3 (dm_St_B St2 hi (by rw [pk_un (by omega), qN]) qK (by rw [pk_un (by omega), pk_us]) qW pk_us hpos) hl1 pk_us pk_us (by rw [pk_us, dm_eIs]) (Nat.le_refl _) (Nat.le_refl _) ?_ (by omega) (by omega) (by omega) (by omega) (by omega) (by omega)
          refine dm_EO_b (y := y) (c0 := c) (Le := L e) (bs := fun x => bo (s * 8 + x)) ?_ hc (fun x hx => dm_Ls_n) (fun x hx => ?_)
          · exact dm_EO_w EO (fun x hx hw => ⟨hw.1, dm_nbf k15 ey hx hy hw.2⟩)
          · rw [dm_b1_in, dm_cp_in hx, qv]
      · have ea : a = D := by omega
        have eq : q = D := by omega
        subst ea
        refine dm_H_e (by omega) ?_ (fun post m h => x_lF (by omega) (x_r_app (by omega) qW (by omega) qF qK (x_a13 (by rw [hk2, k3]) hu b2 (x_7e (by decide) h))))
        exact ⟨n, q, _, rfl, rfl, rfl, rfl, rfl, rfl, ha2, by omega, ha3, fun g => absurd g (by decide), fun _ => by omega, b1, b2, d1, d2, P, Or.inr ⟨rfl, rfl, C, dm_R10⟩⟩
    · have eu : un = B := by omega
      subst eu
      refine dm_H_e (by omega) ?_ (fun post m h => x_lF (by omega) (x_r_app (by omega) qW (by omega) qF qK (x_a12 (by rw [hk2, k3]) (x_7e (by decide) h))))
      exact ⟨n, q, _, rfl, rfl, rfl, rfl, rfl, rfl, ha2, by omega, ha3, fun _ => rfl, fun g => absurd g (by decide), b1, b2, d1, d2, P, Or.inr ⟨rfl, rfl, C, dm_R10⟩⟩
  · refine dm_H_e (by omega) ?_ (fun post m h => x_lF (by omega) (x_r_app (by omega) qW (by omega) qF qK (x_a9 (by rw [hk2]; exact k3) (x_7e (by decide) h))))
    exact ⟨n, q, _, rfl, rfl, rfl, rfl, rfl, rfl, ha2, by omega, ha3, fun g => absurd g (by decide), fun g => absurd g (by decide), b1, b2, d1, d2, P, Or.inr ⟨rfl, rfl, C, dm_R10⟩⟩
end
