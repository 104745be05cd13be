/-! the runs side by side -/
def dm_Fx (kd na nb se fn tg tn : Nat → Int32) (n B D : Nat) : Prop := dm_Pg kd na nb n ∧ dm_Cp kd na nb se fn tg tn n ∧ 1 ≤ B ∧ B ≤ 64 ∧ 1 ≤ D ∧ D ≤ 8
def dm_SE (kd na nb se fn tg tn : Nat → Int32) (n B D K : Nat) : Prop := ∀ (m : Nat → Int64) (L : Nat → Nat → Nat) (p e : Nat) {oc : Int32} {cv : Int64} {pF pS : Nat → Int64} {cT cB : Nat → Int32} {bo : Nat → Int64} {wN wF wB : Nat → Int32} {wV : Nat → Int64} {vK vA vB eN eV eX fN fS fE fV : Nat → Int32} {hp ep un a w j gX q : Nat} {i s : Nat},
  dm_Wd kd na nb fn n B hp ep un m L bo vK vA vB pF pS cT cB eN eV eX → dm_St kd fn n hp ep un m L bo fN fS fE fV wN wF wB wV j w a p → i < n → fN j = nI i → fS j = 0 → fE j = dm_eI e → e ≤ ep → s ≤ un → dm_EO hp m (L e) (fun x => bo (s * 8 + x)) (fun x => bt (fn i) x = true) → j ≤ 32 * a + i → a ≤ q → q ≤ un → q ≤ D →
  p + 8 * (dm_E kd i - i) + 256 * (B - un) + 5 * hp < K → gX + K ≤ 16700 → dm_H B D K gX 0 (nI B, nI D, nI n, nI (dm_O kd n), 1, nI (dm_cnt kd n), oc, nI un, nI a, nI q, 0, nI w, 1, nI i, nI s, cv, kd, na, nb, se, fn, tg, tn, pF, pS, cT, cB, bo, wN, wF, wB, wV)
def dm_SF (kd na nb se fn tg tn : Nat → Int32) (n B D K : Nat) : Prop := ∀ (m : Nat → Int64) (L : Nat → Nat → Nat) (p c : Nat) {cn cb : Int32} {cv : Int64} {pF pS : Nat → Int64} {cT cB : Nat → Int32} {bo : Nat → Int64} {wN wF wB : Nat → Int32} {wV : Nat → Int64} {vK vA vB eN eV eX fN fS fE fV : Nat → Int32} {hp ep un a w j gX q : Nat},
  dm_Wd kd na nb fn n B hp ep un m L bo vK vA vB pF pS cT cB eN eV eX → dm_St kd fn n hp ep un m L bo fN fS fE fV wN wF wB wV j w a p → c < hp → cv = m c → a ≤ q → q ≤ un → q ≤ D →
  p + 256 * (B - un) + 5 * hp < K → gX + K ≤ 16700 → dm_H B D K gX (dm_en w) (nI B, nI D, nI n, nI (dm_O kd n), 1, nI (dm_cnt kd n), 0, nI un, nI a, nI q, 0, nI w, 0, cn, cb, cv, kd, na, nb, se, fn, tg, tn, pF, pS, cT, cB, bo, wN, wF, wB, wV)
section
variable {kd na nb f : Nat → Int32} {n hp ep un c : Nat} {m bo : Nat → Int64} {L : Nat → Nat → Nat} {vK vA vB : Nat → Int32} {pF pS : Nat → Int64} {cT cB : Nat → Int32}
theorem dm_HC_k (h : dm_HC kd na nb f n hp ep un m L bo vK vA vB pF pS cT cB c) : dm_kof (m c) = vK c := by
  rcases h with ⟨h1, h2⟩ | ⟨h1, p, a, b, h2, h3, h4, h5, h6, h7⟩ | ⟨h1, p, l, e, s, h2, h3, h4, h5, h6, h7, h8, h9⟩
  · rw [h1, h2, dm_val_k]
  · rw [h1, h6, dm_val_k]
  · rw [h1, h8, dm_val_k]
theorem dm_HC_i (h : dm_HC kd na nb f n hp ep un m L bo vK vA vB pF pS cT cB c) (hk : vK c = 1) : (m c).toInt32 = vA c := by
  rcases h with ⟨h1, h2⟩ | ⟨h1, h2⟩ | ⟨h1, h2⟩
  · rw [h2, dm_val_d]
  · rw [hk] at h1
    exact absurd h1 (by decide)
  · rw [hk] at h1
    exact absurd h1 (by decide)
theorem dm_HC_p (h : dm_HC kd na nb f n hp ep un m L bo vK vA vB pF pS cT cB c) (hk : vK c = 2) : ∃ p a b, 1 ≤ p ∧ p ≤ un ∧ a < c ∧ b < c ∧ (m c).toInt32 = nI p ∧ vA c = nI a ∧ vB c = nI b ∧ pF p = m a ∧ pS p = m b := by
  rcases h with ⟨h1, h2⟩ | ⟨h1, p, a, b, h2, h3, h4, h5, h6, h7⟩ | ⟨h1, h2⟩
  · rw [hk] at h1
    exact absurd h1 (by decide)
  · exact ⟨p, a, b, h2, h3, h4, h5, by rw [h6, dm_val_d], h7⟩
  · rw [hk] at h1
    exact absurd h1 (by decide)
theorem dm_HC_f (h : dm_HC kd na nb f n hp ep un m L bo vK vA vB pF pS cT cB c) (hk : vK c = 3) : ∃ p l e s, 1 ≤ p ∧ p ≤ un ∧ l < n ∧ (kd l = 13 ∨ kd l = 15) ∧ e ≤ ep ∧ s ≤ un ∧ (m c).toInt32 = nI p ∧ vA c = nI l ∧ vB c = dm_eI e ∧ cT p = nI (dm_cnt kd l) ∧ cB p = nI s ∧ dm_EO hp m (L e) (fun x => bo (s * 8 + x)) (dm_LW kd na nb f l) := by
  rcases h with ⟨h1, h2⟩ | ⟨h1, h2⟩ | ⟨h1, p, l, e, s, h2, h3, h4, h5, h6, h7, h8, h9⟩
  · rw [hk] at h1
    exact absurd h1 (by decide)
  · rw [hk] at h1
    exact absurd h1 (by decide)
  · exact ⟨p, l, e, s, h2, h3, h4, h5, h6, h7, by rw [h8, dm_val_d], h9⟩
theorem dm_HC_R (hu : un ≤ 64) (h : dm_HC kd na nb f n hp ep un m L bo vK vA vB pF pS cT cB c) : dm_RC kd n m vK vA vB pF pS cT c := by
  rcases h with h | ⟨h1, p, a, b, h2, h3, h4⟩ | ⟨h1, p, l, e, s, h2, h3, h4, h5, h6, h7, h8, h9, h10, h11, h12⟩
  · exact Or.inl h
  · exact Or.inr (Or.inl ⟨h1, p, a, b, by omega, h4⟩)
  · exact Or.inr (Or.inr ⟨h1, p, l, by omega, h4, h5, h8, h9, h11⟩)
theorem dm_nb0 {i : Nat} {x : Int32} (kF : dm_kF (kd i)) : ¬ dm_bd kd na nb i 0 x := by
  obtain ⟨n1, n2, n13, n15⟩ := dm_kF_n kF
  rintro (⟨g, _⟩ | ⟨_, g, _⟩ | ⟨g, _⟩)
  · exact n13 g
  · omega
  · exact n15 g
theorem dm_nb1 {i x y : Nat} (qA : na i = nI y) (hx : x < 8) (hy : y < 8) (e : x ≠ y) : ¬ dm_bd kd na nb i 1 (nI x) := by
  have e2 : ¬ na i = nI x := by
    rw [qA]
    exact fun g => e ((nI_eq (by omega) (by omega)).mp g).symm
  rintro (⟨_, g, _⟩ | ⟨_, _, g⟩ | ⟨_, ⟨g, _⟩ | ⟨_, g⟩⟩)
  · omega
  · exact e2 g
  · omega
  · exact e2 g
theorem dm_nbf {l x y : Nat} (k13 : ¬ kd l = 15) (qA : na l = nI y) (hx : x < 8) (hy : y < 8) (e : x ≠ y) : ¬ dm_bd kd na nb l 0 (nI x) := by
  have e2 : ¬ na l = nI x := by
    rw [qA]
    exact fun g => e ((nI_eq (by omega) (by omega)).mp g).symm
  rintro (⟨_, _, g⟩ | ⟨_, g, _⟩ | ⟨g, _⟩)
  · exact e2 g
  · omega
  · exact k13 g
theorem dm_nbr {l x y z : Nat} (k15 : kd l = 15) (qA : na l = nI y) (qB : nb l = nI z) (hx : x < 8) (hy : y < 8) (hz : z < 8) (e : x ≠ y) (e' : x ≠ z) : ¬ dm_bd kd na nb l 0 (nI x) := by
  rw [dm_bd, k15, qA, qB]
  rintro (⟨g, _⟩ | ⟨g, _⟩ | ⟨_, ⟨_, g | g⟩ | ⟨g, _⟩⟩)
  · exact absurd g (by decide)
  · exact absurd g (by decide)
  · exact e ((nI_eq (by omega) (by omega)).mp g).symm
  · exact e' ((nI_eq (by omega) (by omega)).mp g).symm
  · omega
theorem dm_kF_ar {k : Int32} (h : dm_kF k) : 1 ≤ dm_ar k := by
  rcases h with rfl | rfl | rfl | rfl | rfl | rfl | rfl | rfl | rfl | rfl | rfl | rfl <;> decide
theorem dm_kS_ar {k : Int32} (h : dm_kS k) : dm_ar k = 2 := by
  rcases h with rfl | rfl | rfl | rfl | rfl | rfl | rfl | rfl <;> decide
end
section
variable {kd na nb se fn tg tn : Nat → Int32} {n B D K : Nat} {m : Nat → Int64} {L : Nat → Nat → Nat} {p e c : Nat} {oc : Int32} {cn cb : Int32} {cv : Int64} {pF pS : Nat → Int64} {cT cB : Nat → Int32} {bo : Nat → Int64} {wN wF wB : Nat → Int32} {wV : Nat → Int64} {vK vA vB eN eV eX fN fS fE fV : Nat → Int32} {hp ep un a w j gX q : Nat} {i s : Nat}
theorem sE_num (X0 : dm_Fx kd na nb se fn tg tn n B D) (W : dm_Wd kd na nb fn n B hp ep un m L bo vK vA vB pF pS cT cB eN eV eX) (St : dm_St kd fn n hp ep un m L bo fN fS fE fV wN wF wB wV j w a p) (hi : i < n) (qN : fN j = nI i) (qS : fS j = 0) (qE : fE j = dm_eI e) (he : e ≤ ep) (hs : s ≤ un) (EO : dm_EO hp m (L e) (fun x => bo (s * 8 + x)) (fun x => bt (fn i) x = true)) (hpos : j ≤ 32 * a + i) (ha1 : a ≤ q) (ha2 : q ≤ un) (ha3 : q ≤ D) (hpot : p + 8 * (dm_E kd i - i) + 256 * (B - un) + 5 * hp < K + 1) (gx : gX + (K + 1) ≤ 16700) (hF : dm_SF kd na nb se fn tg tn n B D K) (qK : kd i = 1) : dm_H B D (K + 1) gX 0 (nI B, nI D, nI n, nI (dm_O kd n), 1, nI (dm_cnt kd n), oc, nI un, nI a, nI q, 0, nI w, 1, nI i, nI s, cv, kd, na, nb, se, fn, tg, tn, pF, pS, cT, cB, bo, wN, wF, wB, wV) := by
  obtain ⟨P, C, b1, b2, d1, d2⟩ := X0
  have T : dm_Tr kd n := ⟨P.2.1, C.1⟩
  have hn := P.1
  have hE1 := dm_E_gt T hi
  have hE2 := dm_E_le T hi
  have hwj := dm_St_le _ _ _ _ St
  have hep := W.2.2.1
  have hun := W.2.2.2
  have hh : hp < 4096 := by omega
  have hj : j < 300 := by omega
  obtain ⟨X, W2⟩ := dm_Wd_int W (na i) 0
  have St2 := dm_St_x X j w a p (fun _ _ => ⟨rfl, rfl, rfl, rfl⟩) (fun _ _ => ⟨rfl, rfl, rfl, rfl⟩) St
  refine dm_H_s (fun post m h => x_lE (by omega) (x_e_num (by omega) qK (x_7F (by omega) h))) ?_
  exact hF _ L p hp W2 St2 (by omega) pk_uLs.symm (by omega) (by omega) (by omega) (by omega) (by omega)
theorem sE_var (X0 : dm_Fx kd na nb se fn tg tn n B D) (W : dm_Wd kd na nb fn n B hp ep un m L bo vK vA vB pF pS cT cB eN eV eX) (St : dm_St kd fn n hp ep un m L bo fN fS fE fV wN wF wB wV j w a p) (hi : i < n) (qN : fN j = nI i) (qS : fS j = 0) (qE : fE j = dm_eI e) (he : e ≤ ep) (hs : s ≤ un) (EO : dm_EO hp m (L e) (fun x => bo (s * 8 + x)) (fun x => bt (fn i) x = true)) (hpos : j ≤ 32 * a + i) (ha1 : a ≤ q) (ha2 : q ≤ un) (ha3 : q ≤ D) (hpot : p + 8 * (dm_E kd i - i) + 256 * (B - un) + 5 * hp < K + 1) (gx : gX + (K + 1) ≤ 16700) (hF : dm_SF kd na nb se fn tg tn n B D K) (qK : kd i = 2) : dm_H B D (K + 1) gX 0 (nI B, nI D, nI n, nI (dm_O kd n), 1, nI (dm_cnt kd n), oc, nI un, nI a, nI q, 0, nI w, 1, nI i, nI s, cv, kd, na, nb, se, fn, tg, tn, pF, pS, cT, cB, bo, wN, wF, wB, wV) := by
  obtain ⟨P, C, b1, b2, d1, d2⟩ := X0
  have T : dm_Tr kd n := ⟨P.2.1, C.1⟩
  have hn := P.1
  have hE1 := dm_E_gt T hi
  have hE2 := dm_E_le T hi
  have hwj := dm_St_le _ _ _ _ St
  have hep := W.2.2.1
  have hun := W.2.2.2
  have hh : hp < 4096 := by omega
  have hj : j < 300 := by omega
  obtain ⟨y, hy, ey⟩ := (P.2.2 i hi).2.1 (Or.inl qK)
  obtain ⟨c, hc, hL, hb⟩ := EO y hy ((C.2.2.1 i hi y (by omega)).mpr (Or.inl ⟨qK, ey⟩))
  refine dm_H_s (fun post m h => x_lE (by omega) (x_e_var (by omega) qK ey hy (by omega) (x_7F (by omega) h))) ?_
  exact hF m L p c W St hc hb (by omega) (by omega) (by omega) (by omega) (by omega)
theorem sE_fun (X0 : dm_Fx kd na nb se fn tg tn n B D) (W : dm_Wd kd na nb fn n B hp ep un m L bo vK vA vB pF pS cT cB eN eV eX) (St : dm_St kd fn n hp ep un m L bo fN fS fE fV wN wF wB wV j w a p) (hi : i < n) (qN : fN j = nI i) (qS : fS j = 0) (qE : fE j = dm_eI e) (he : e ≤ ep) (hs : s ≤ un) (EO : dm_EO hp m (L e) (fun x => bo (s * 8 + x)) (fun x => bt (fn i) x = true)) (hpos : j ≤ 32 * a + i) (ha1 : a ≤ q) (ha2 : q ≤ un) (ha3 : q ≤ D) (hpot : p + 8 * (dm_E kd i - i) + 256 * (B - un) + 5 * hp < K + 1) (gx : gX + (K + 1) ≤ 16700) (hF : dm_SF kd na nb se fn tg tn n B D K) (qK : kd i = 13) : dm_H B D (K + 1) gX 0 (nI B, nI D, nI n, nI (dm_O kd n), 1, nI (dm_cnt kd n), oc, nI un, nI a, nI q, 0, nI w, 1, nI i, nI s, cv, kd, na, nb, se, fn, tg, tn, pF, pS, cT, cB, bo, wN, wF, wB, wV) := by
  obtain ⟨P, C, b1, b2, d1, d2⟩ := X0
  have T : dm_Tr kd n := ⟨P.2.1, C.1⟩
  have hn := P.1
  have hE1 := dm_E_gt T hi
  have hE2 := dm_E_le T hi
  have hwj := dm_St_le _ _ _ _ St
  have hep := W.2.2.1
  have hun := W.2.2.2
  have hh : hp < 4096 := by omega
  have hj : j < 300 := by omega
  by_cases hu : un < B
  · have EOl : dm_EO hp m (L e) (fun x => bo (s * 8 + x)) (dm_LW kd na nb fn i) := dm_EO_w EO (fun x hx hw => (C.2.2.1 i hi x (by omega)).mpr (Or.inr ⟨0, by rw [qK]; decide, hw.1, hw.2⟩))
    obtain ⟨X, W2⟩ := dm_Wd_fun (l := i) (bo' := bo) W hu hi (Or.inl qK) he hs (fun _ _ => rfl) EOl
    have et := (C.2.2.2.2 i hi (Or.inl qK)).1
    rw [← et] at W2
    have St2 := dm_St_x X j w a p (fun _ _ => ⟨rfl, rfl, rfl, rfl⟩) (fun _ _ => ⟨rfl, rfl, rfl, rfl⟩) St
    refine dm_H_s (fun post m h => x_lE (by omega) (x_e_fun (by omega) qK hu b2 (x_7F (by omega) h))) ?_
    exact hF _ L p hp W2 St2 (by omega) pk_uLs.symm (by omega) (by omega) (by omega) (by omega) (by omega)
  · have eu : un = B := by omega
    subst eu
    refine dm_H_e (by omega) ?_ (fun post m h => x_lE (by omega) (x_e_fun12 (by omega) qK (x_7e (by decide) h)))
    exact ⟨n, q, _, rfl, rfl, rfl, rfl, rfl, rfl, ha2, by omega, ha3, fun _ => rfl, fun g => absurd g (by decide), b1, b2, d1, d2, P, Or.inr ⟨rfl, rfl, C, dm_R10⟩⟩
theorem sE_rec (X0 : dm_Fx kd na nb se fn tg tn n B D) (W : dm_Wd kd na nb fn n B hp ep un m L bo vK vA vB pF pS cT cB eN eV eX) (St : dm_St kd fn n hp ep un m L bo fN fS fE fV wN wF wB wV j w a p) (hi : i < n) (qN : fN j = nI i) (qS : fS j = 0) (qE : fE j = dm_eI e) (he : e ≤ ep) (hs : s ≤ un) (EO : dm_EO hp m (L e) (fun x => bo (s * 8 + x)) (fun x => bt (fn i) x = true)) (hpos : j ≤ 32 * a + i) (ha1 : a ≤ q) (ha2 : q ≤ un) (ha3 : q ≤ D) (hpot : p + 8 * (dm_E kd i - i) + 256 * (B - un) + 5 * hp < K + 1) (gx : gX + (K + 1) ≤ 16700) (hE : dm_SE kd na nb se fn tg tn n B D K) (qK : kd i = 15) : dm_H B D (K + 1) gX 0 (nI B, nI D, nI n, nI (dm_O kd n), 1, nI (dm_cnt kd n), oc, nI un, nI a, nI q, 0, nI w, 1, nI i, nI s, cv, kd, na, nb, se, fn, tg, tn, pF, pS, cT, cB, bo, wN, wF, wB, wV) := by
  obtain ⟨P, C, b1, b2, d1, d2⟩ := X0
  have T : dm_Tr kd n := ⟨P.2.1, C.1⟩
  have hn := P.1
  have hE1 := dm_E_gt T hi
  have hE2 := dm_E_le T hi
  have hwj := dm_St_le _ _ _ _ St
  have hep := W.2.2.1
  have hun := W.2.2.2
  have hh : hp < 4096 := by omega
  have hj : j < 300 := by omega
  obtain ⟨y, hy, ey⟩ := (P.2.2 i hi).2.1 (Or.inr (Or.inr (Or.inr qK)))
  have ar2 : dm_ar (kd i) = 2 := by
    rw [qK]
    decide
  have h0 := dm_ch_lt T hi (c := 0) (by omega)
  have h1 := dm_ch_lt T hi (c := 1) (by omega)
  have h1g := dm_ch_gt T hi (c := 1) (by omega)
  have h1E := dm_ch_in T hi (c := 1) (by omega)
  rw [dm_ch0] at h0
  by_cases hu : un < B
  · have EOl : dm_EO hp m (L e) (fun x => bo (s * 8 + x)) (dm_LW kd na nb fn i) := dm_EO_w EO (fun x hx hw => (C.2.2.1 i hi x (by omega)).mpr (Or.inr ⟨0, by omega, hw.1, hw.2⟩))
    obtain ⟨X, W2⟩ := dm_Wd_fun (l := i) (bo' := vp_updL (dm_cp bo s (un + 1) 8) ((un + 1) * 8 + y) (dm_val 3 (nI (un + 1)))) W hu hi (Or.inr qK) he hs (fun k hk => by rw [dm_b1_lo hk, dm_cp_lo hk]) EOl
    have et := (C.2.2.2.2 i hi (Or.inr qK)).1
    rw [← et] at W2
    obtain ⟨X2, W3⟩ := dm_Wd_env (c := hp) W2 hy (by omega) he (by omega)
    have X3 := dm_Ex_t X X2
    have St2 := dm_St_x (fN' := upd fN (j + 1) (nI (dm_ch kd i 1))) (fS' := upd (upd fS j 1) (j + 1) 0) (fE' := upd fE (j + 1) (nI ep)) (fV' := upd fV (j + 1) (-1)) X3 j w a p (fun q hq => ⟨pk_un (by omega), by rw [pk_un (by omega), pk_un (by omega)], pk_un (by omega), pk_un (by omega)⟩) (fun _ _ => ⟨rfl, rfl, rfl, rfl⟩) St
    refine dm_H_s (fun post m h => x_lE (by omega) (x_e_rec hn h0 qK ey hy hs (C.2.1 _ h0) hu b2 (x_7E h))) ?_
    refine hE _ _ (p + 1) (ep + 1) W3 (dm_St_T St2 hi (by rw [pk_un (by omega), qN]) (Or.inr (Or.inr ⟨qK, by rw [pk_un (by omega), pk_us]⟩)) hpos) h1 pk_us pk_us (by rw [pk_us, dm_eIs]) (Nat.le_refl _) (Nat.le_refl _) ?_ (by omega) (by omega) (by omega) (by omega) (by omega) (by omega)
    refine dm_EO_b (y := y) (c0 := hp) (Le := L e) (bs := fun x => bo (s * 8 + x)) ?_ (by omega) (fun x hx => dm_Ls_n) (fun x hx => ?_)
    · refine dm_EO_x (dm_EO_w EO (fun x hx hw => ?_)) (Nat.le_succ hp) (fun c hc => pk_uLn (by omega)) (fun _ _ => rfl) (fun _ _ => rfl)
      exact (C.2.2.1 i hi x (by omega)).mpr (Or.inr ⟨1, by omega, hw.1, dm_nb1 ey hx hy hw.2⟩)
    · rw [dm_b1_in, pk_uLs, dm_cp_in hx]
  · have eu : un = B := by omega
    subst eu
    refine dm_H_e (by omega) ?_ (fun post m h => x_lE (by omega) (x_e_rec12 (by omega) qK (x_7e (by decide) h)))
    exact ⟨n, q, _, rfl, rfl, rfl, rfl, rfl, rfl, ha2, by omega, ha3, fun _ => rfl, fun g => absurd g (by decide), b1, b2, d1, d2, P, Or.inr ⟨rfl, rfl, C, dm_R10⟩⟩
theorem sE_oth (X0 : dm_Fx kd na nb se fn tg tn n B D) (W : dm_Wd kd na nb fn n B hp ep un m L bo vK vA vB pF pS cT cB eN eV eX) (St : dm_St kd fn n hp ep un m L bo fN fS fE fV wN wF wB wV j w a p) (hi : i < n) (qN : fN j = nI i) (qS : fS j = 0) (qE : fE j = dm_eI e) (he : e ≤ ep) (hs : s ≤ un) (EO : dm_EO hp m (L e) (fun x => bo (s * 8 + x)) (fun x => bt (fn i) x = true)) (hpos : j ≤ 32 * a + i) (ha1 : a ≤ q) (ha2 : q ≤ un) (ha3 : q ≤ D) (hpot : p + 8 * (dm_E kd i - i) + 256 * (B - un) + 5 * hp < K + 1) (gx : gX + (K + 1) ≤ 16700) (hE : dm_SE kd na nb se fn tg tn n B D K) (kF : dm_kF (kd i)) : dm_H B D (K + 1) gX 0 (nI B, nI D, nI n, nI (dm_O kd n), 1, nI (dm_cnt kd n), oc, nI un, nI a, nI q, 0, nI w, 1, nI i, nI s, cv, kd, na, nb, se, fn, tg, tn, pF, pS, cT, cB, bo, wN, wF, wB, wV) := by
  obtain ⟨P, C, b1, b2, d1, d2⟩ := X0
  have T : dm_Tr kd n := ⟨P.2.1, C.1⟩
  have hn := P.1
  have hE1 := dm_E_gt T hi
  have hE2 := dm_E_le T hi
  have hwj := dm_St_le _ _ _ _ St
  have hep := W.2.2.1
  have hun := W.2.2.2
  have hh : hp < 4096 := by omega
  have hj : j < 300 := by omega
  have ar1 := dm_kF_ar kF
  have h0 := dm_ch_lt T hi (c := 0) (by omega)
  have h0E := dm_ch_in T hi (c := 0) (by omega)
  rw [dm_ch0] at h0 h0E
  have h0g := dm_E_gt T h0
  have St2 := dm_St_x (fN' := upd fN (j + 1) (nI (i + 1))) (fS' := upd (upd fS j 1) (j + 1) 0) (fE' := upd fE (j + 1) (dm_eI e)) (fV' := upd fV (j + 1) (-1)) (wN' := upd wN w (nI i)) (wF' := upd wF w 0) (wB' := upd wB w (nI s)) (wV' := wV) (dm_Ex_r (hp := hp) (ep := ep) (un := un) (m := m) (bo := bo) (L := L)) j w a p (fun q hq => ⟨pk_un (by omega), by rw [pk_un (by omega), pk_un (by omega)], pk_un (by omega), pk_un (by omega)⟩) (fun q hq => ⟨pk_un (by omega), pk_un (by omega), pk_un (by omega), rfl⟩) St
  refine dm_H_s (fun post m h => x_lE (by omega) (x_e_oth (by omega) kF (by omega) (x_7E h))) ?_
  refine hE m L (p + 7 + 8 * (dm_E kd i - dm_E kd (i + 1))) e W (dm_St_F St2 hi (by rw [pk_un (by omega), qN]) (by rw [pk_un (by omega), pk_us]) kF pk_us pk_us (by rw [pk_un (by omega), qE]) pk_us he hs EO hpos) h0 pk_us pk_us pk_us he hs ?_ (by omega) (by omega) (by omega) (by omega) (by omega) (by omega)
  exact dm_EO_w EO (fun x hx hw => (C.2.2.1 i hi x (by omega)).mpr (Or.inr ⟨0, by omega, hw, dm_nb0 kF⟩))
end
