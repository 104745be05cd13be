/-! run -/
section
variable {kd na nb se fn tg tn : Nat → Int32} {n B D : Nat}
theorem sE_all {K : Nat} (X0 : dm_Fx kd na nb se fn tg tn n B D) (hE : dm_SE kd na nb se fn tg tn n B D K) (hF : dm_SF kd na nb se fn tg tn n B D K) : dm_SE kd na nb se fn tg tn n B D (K + 1) := by
  intro m L p e oc pk yo rt cv pF pS cT cB bo wN wF wB wV vK vA vB eN eV eX fN fS fE fV hp ep un a w j gX gY i s W St hi qN qS qE he hs EO hpos ha hpot gx gy
  obtain ⟨q, q1, q2, ek⟩ := dm_Pgk X0.1 hi
  by_cases k1 : kd i = 1
  · exact sE_num X0 W St hi qN qS qE he hs EO hpos ha hpot gx gy hF k1
  by_cases k2 : kd i = 2
  · exact sE_var X0 W St hi qN qS qE he hs EO hpos ha hpot gx gy hF k2
  by_cases k13 : kd i = 13
  · exact sE_fun X0 W St hi qN qS qE he hs EO hpos ha hpot gx gy hF k13
  by_cases k15 : kd i = 15
  · exact sE_rec X0 W St hi qN qS qE he hs EO hpos ha hpot gx gy hE k15
  refine sE_oth X0 W St hi qN qS qE he hs EO hpos ha hpot gx gy hE ?_
  rw [ek] at k1 k2 k13 k15 ⊢
  rcases (show q = 1 ∨ q = 2 ∨ q = 3 ∨ q = 4 ∨ q = 5 ∨ q = 6 ∨ q = 7 ∨ q = 8 ∨ q = 9 ∨ q = 10 ∨ q = 11 ∨ q = 12 ∨ q = 13 ∨ q = 14 ∨ q = 15 ∨ q = 16 by omega) with rfl | rfl | rfl | rfl | rfl | rfl | rfl | rfl | rfl | rfl | rfl | rfl | rfl | rfl | rfl | rfl
  · exact absurd rfl k1
  · exact absurd rfl k2
  · exact Or.inl rfl
  · exact Or.inr (Or.inl rfl)
  · exact Or.inr (Or.inr (Or.inl rfl))
  · exact Or.inr (Or.inr (Or.inr (Or.inl rfl)))
  · exact Or.inr (Or.inr (Or.inr (Or.inr (Or.inl rfl))))
  · exact Or.inr (Or.inr (Or.inr (Or.inr (Or.inr (Or.inl rfl)))))
  · exact Or.inr (Or.inr (Or.inr (Or.inr (Or.inr (Or.inr (Or.inl rfl))))))
  · exact Or.inr (Or.inr (Or.inr (Or.inr (Or.inr (Or.inr (Or.inr (Or.inl rfl)))))))
  · exact Or.inr (Or.inr (Or.inr (Or.inr (Or.inr (Or.inr (Or.inr (Or.inr (Or.inl rfl))))))))
  · exact Or.inr (Or.inr (Or.inr (Or.inr (Or.inr (Or.inr (Or.inr (Or.inr (Or.inr (Or.inl rfl)))))))))
  · exact absurd rfl k13
  · exact Or.inr (Or.inr (Or.inr (Or.inr (Or.inr (Or.inr (Or.inr (Or.inr (Or.inr (Or.inr (Or.inl rfl))))))))))
  · exact absurd rfl k15
  · exact Or.inr (Or.inr (Or.inr (Or.inr (Or.inr (Or.inr (Or.inr (Or.inr (Or.inr (Or.inr (Or.inr (rfl)))))))))))
theorem sF_all {K : Nat} (X0 : dm_Fx kd na nb se fn tg tn n B D) (hE : dm_SE kd na nb se fn tg tn n B D K) (hF : dm_SF kd na nb se fn tg tn n B D K) : dm_SF kd na nb se fn tg tn n B D (K + 1) := by
  intro m L p c pk cn cb yo cv pF pS cT cB bo wN wF wB wV vK vA vB eN eV eX fN fS fE fV hp ep un a w j gX gY W St hc qv ha hpot gx gy
  cases j with
  | zero =>
    obtain ⟨rfl, rfl, rfl⟩ := St
    obtain ⟨P, C, b1, b2, d1, d2⟩ := X0
    have hun := W.2.2.2
    refine ⟨0, (nI B, nI D, nI n, nI (dm_O kd n), 1, nI (dm_cnt kd n), 0, nI un, nI 0, pk, cv, nI 0, 0, cn, cb, cv, kd, na, nb, se, fn, tg, tn, pF, pS, cT, cB, bo, wN, wF, wB, wV), (nI B, nI D, nI n, 1, 0, nI un, nI 0, pk, nI c, nI hp, nI ep, nI 0, 0, nI c, kd, na, nb, vK, vA, vB, eN, eV, eX, fN, fS, fE, fV), fun k => ?_, fun post h q hq => ?_, fun post h q hq => ?_⟩
    rotate_left
    · obtain ⟨q, rfl⟩ : ∃ t, q = t + 1 := ⟨q - 1, by omega⟩
      exact x_end h
    · obtain ⟨q, rfl⟩ : ∃ t, q = t + 1 := ⟨q - 1, by omega⟩
      exact y_end h
    · exact ⟨B, D, n, rfl, rfl, rfl, rfl, rfl, rfl, rfl, rfl, rfl, rfl, rfl, rfl, rfl, rfl, b1, b2, d1, d2, P, Or.inr ⟨rfl, rfl, C, Or.inr ⟨hp, m, c, by omega, hc, qv, rfl, fun c hc => dm_HC_R (by omega) (W.1 c hc)⟩⟩⟩
  | succ j =>
    obtain ⟨i, hi, qN, St⟩ := St
    rcases St with ⟨p', h1, h2, rfl, h4⟩ | ⟨w', a', p', rfl, rfl, rfl, h4, h5, h6, h7, h8, h9⟩ | ⟨w', p', e, s, rfl, rfl, h3, h4, h5, h6, h7, h8, h9, h10, h11, h12, h13⟩ | ⟨w', p', d, rfl, rfl, h3, h4, h5, h6, h7, h8, h9, h10, h11⟩
    · exact sF_T X0 W hi qN hc qv ha hpot gx gy h4 h1 h2 hF
    · exact sF_B X0 W hi qN hc qv ha hpot gx gy h9 h4 h5 h6 h7 h8 hF
    · rcases h4 with k | k | k | k | k | k | k | k | k | k | k | k
      · exact sF_one X0 W hi qN hc qv ha hpot gx gy h13 h3 h5 h6 h7 h8 h9 h10 h11 h12 (Or.inl k) hE
      · exact sF_one X0 W hi qN hc qv ha hpot gx gy h13 h3 h5 h6 h7 h8 h9 h10 h11 h12 (Or.inr (Or.inl k)) hE
      · exact sF_one X0 W hi qN hc qv ha hpot gx gy h13 h3 h5 h6 h7 h8 h9 h10 h11 h12 (Or.inr (Or.inr (Or.inl k))) hE
      · exact sF_one X0 W hi qN hc qv ha hpot gx gy h13 h3 h5 h6 h7 h8 h9 h10 h11 h12 (Or.inr (Or.inr (Or.inr (Or.inl k)))) hE
      · exact sF_one X0 W hi qN hc qv ha hpot gx gy h13 h3 h5 h6 h7 h8 h9 h10 h11 h12 (Or.inr (Or.inr (Or.inr (Or.inr (Or.inl k))))) hE
      · exact sF_one X0 W hi qN hc qv ha hpot gx gy h13 h3 h5 h6 h7 h8 h9 h10 h11 h12 (Or.inr (Or.inr (Or.inr (Or.inr (Or.inr (Or.inl k)))))) hE
      · exact sF_if X0 W hi qN hc qv ha hpot gx gy h13 h3 h5 h6 h7 h8 h9 h10 h11 h12 k hE
      · exact sF_one X0 W hi qN hc qv ha hpot gx gy h13 h3 h5 h6 h7 h8 h9 h10 h11 h12 (Or.inr (Or.inr (Or.inr (Or.inr (Or.inr (Or.inr (Or.inl k))))))) hE
      · exact sF_fst X0 W hi qN hc qv ha hpot gx gy h13 h3 h5 h6 h7 h8 h9 h10 h11 h12 k hF
      · exact sF_snd X0 W hi qN hc qv ha hpot gx gy h13 h3 h5 h6 h7 h8 h9 h10 h11 h12 k hF
      · exact sF_let X0 W hi qN hc qv ha hpot gx gy h13 h3 h5 h6 h7 h8 h9 h10 h11 h12 k hE
      · exact sF_one X0 W hi qN hc qv ha hpot gx gy h13 h3 h5 h6 h7 h8 h9 h10 h11 h12 (Or.inr (Or.inr (Or.inr (Or.inr (Or.inr (Or.inr (Or.inr (k)))))))) hE
    · rcases h4 with k | k | k | k | k | k | k | k
      · exact sF_bin X0 W hi qN hc qv ha hpot gx gy h11 h3 h5 h6 h7 h8 h9 h10 (Or.inl k) hF
      · exact sF_bin X0 W hi qN hc qv ha hpot gx gy h11 h3 h5 h6 h7 h8 h9 h10 (Or.inr (Or.inl k)) hF
      · exact sF_bin X0 W hi qN hc qv ha hpot gx gy h11 h3 h5 h6 h7 h8 h9 h10 (Or.inr (Or.inr (Or.inl k))) hF
      · exact sF_bin X0 W hi qN hc qv ha hpot gx gy h11 h3 h5 h6 h7 h8 h9 h10 (Or.inr (Or.inr (Or.inr (Or.inl k)))) hF
      · exact sF_bin X0 W hi qN hc qv ha hpot gx gy h11 h3 h5 h6 h7 h8 h9 h10 (Or.inr (Or.inr (Or.inr (Or.inr (Or.inl k))))) hF
      · exact sF_bin X0 W hi qN hc qv ha hpot gx gy h11 h3 h5 h6 h7 h8 h9 h10 (Or.inr (Or.inr (Or.inr (Or.inr (Or.inr (k)))))) hF
      · exact sF_pair X0 W hi qN hc qv ha hpot gx gy h11 h3 h5 h6 h7 h8 h9 h10 k hF
      · exact sF_app X0 W hi qN hc qv ha hpot gx gy h11 h3 h5 h6 h7 h8 h9 h10 k hE
theorem sim_all (X0 : dm_Fx kd na nb se fn tg tn n B D) : ∀ K, dm_SE kd na nb se fn tg tn n B D K ∧ dm_SF kd na nb se fn tg tn n B D K := by
  intro K
  induction K with
  | zero =>
    refine ⟨?_, ?_⟩
    · intro m L p e oc pk yo rt cv pF pS cT cB bo wN wF wB wV vK vA vB eN eV eX fN fS fE fV hp ep un a w j gX gY i s W St hi qN qS qE he hs EO hpos ha hpot
      omega
    · intro m L p c pk cn cb yo cv pF pS cT cB bo wN wF wB wV vK vA vB eN eV eX fN fS fE fV hp ep un a w j gX gY W St hc qv ha hpot
      omega
  | succ K ih => exact ⟨sE_all X0 ih.1 ih.2, sF_all X0 ih.1 ih.2⟩
end
theorem x_run {post : Int32 → SX → Prop} {xB xD xn xo xl oc : Int32} {cv : Int64} {kd na nb se fn tg tn cT cB wN wF wB : Nat → Int32} {pF pS bo wV : Nat → Int64} {xu xa pk xw en cn cb : Int32} {xr : Int64} (h : ∃ m, dm_LX post m 0 0 (xB, xD, xn, xo, 1, xl, oc, 0, 0, 0, 0, 0, 1, 0, 0, cv, kd, na, nb, se, fn, tg, tn, pF, pS, cT, cB, bo, wN, wF, wB, wV)) : wpX_run post (xB, xD, xn, xo, 1, xl, oc, xu, xa, pk, xr, xw, en, cn, cb, cv, kd, na, nb, se, fn, tg, tn, pF, pS, cT, cB, bo, wN, wF, wB, wV) := by
  unfold wpX_run
  refine br_f (by decide) ?_
  unfold wpX_startRun
  exact h
theorem y_run {post : Int32 → SY → Prop} {yB yD yn yo yu ya yp yr yh ye ys er rt : Int32} {kd na nb vK vA vB eN eV eX fN fS fE fV : Nat → Int32} (h : ∃ m, dm_LY post m 0 (yB, yD, yn, 1, yo, 0, 0, 0, -1, 0, 0, nI (0 + 1), 0, -1, kd, na, nb, vK, vA, vB, eN, eV, eX, upd fN 0 (nI 0), upd fS 0 0, upd fE 0 (-1), upd fV 0 (-1))) : wpY_run post (yB, yD, yn, 1, yo, yu, ya, yp, yr, yh, ye, ys, er, rt, kd, na, nb, vK, vA, vB, eN, eV, eX, fN, fS, fE, fV) := by
  unfold wpY_run
  refine br_f (by decide) ?_
  exact y_push (sp := 0) (c := 0) (by omega) (by omega) h
theorem i_vc_run {k : Nat} {u : SX} {v : SY} (I : i_Rel k u v) (hk : k + 4 ≤ 2050) : wpX_run (fun r u' => wpY_run (fun r' v' => r' = r ∧ i_Rel (k + 4) u' v') v) u := by
  have J := I
  obtain ⟨xB, xD, xn, xo, xc, xl, oc, xu, xa, pk, xr, xw, en, cn, cb, cv, kd, na, nb, se, fn, tg, tn, pF, pS, cT, cB, bo, wN, wF, wB, wV⟩ := u
  obtain ⟨yB, yD, yn, yc, yo, yu, ya, yp, yr, yh, ye, ys, er, rt, yk, ym, yb, vK, vA, vB, eN, eV, eX, fN, fS, fE, fV⟩ := v
  obtain ⟨B, D, n, rfl, rfl, rfl, rfl, rfl, rfl, rfl, rfl, rfl, rfl, rfl, rfl, rfl, rfl, b1, b2, d1, d2, P, R⟩ := I
  rcases R with ⟨rfl, rfl, rfl, rfl⟩ | ⟨rfl, rfl, C, R⟩
  · exact br_t rfl (br_t rfl ⟨rfl, J⟩)
  · have T : dm_Tr yk n := ⟨P.2.1, C.1⟩
    have hn := P.1
    have hpos := dm_Tr_pos T
    have hE0 := dm_E_0 T
    have X0 : dm_Fx yk ym yb se fn tg tn n B D := ⟨P, C, b1, b2, d1, d2⟩
    have W : dm_Wd yk ym yb fn n B 0 0 0 (fun _ => 0) (fun _ _ => 0) bo vK vA vB pF pS cT cB eN eV eX := ⟨fun c hc => absurd hc (Nat.not_lt_zero c), ⟨fun _ => rfl, fun j hj => absurd hj (Nat.not_lt_zero j)⟩, Nat.zero_le _, Nat.zero_le _⟩
    have EO : dm_EO 0 (fun _ => (0 : Int64)) ((fun _ _ => 0 : Nat → Nat → Nat) 0) (fun x => bo (0 * 8 + x)) (fun x => bt (fn 0) x = true) := by
      intro x hx hw
      rw [C.2.2.2.1, b_0] at hw
      exact absurd hw (by decide)
    have G : dm_G 16641 0 0 0 (nI B, nI D, nI n, nI (dm_O yk n), 1, nI (dm_cnt yk n), yo, nI 0, nI 0, 0, 0, nI 0, 1, nI 0, nI 0, cv, yk, ym, yb, se, fn, tg, tn, pF, pS, cT, cB, bo, wN, wF, wB, wV) (nI B, nI D, nI n, 1, yo, nI 0, nI 0, 0, -1, nI 0, nI 0, nI (0 + 1), 0, -1, yk, ym, yb, vK, vA, vB, eN, eV, eX, upd fN 0 (nI 0), upd fS 0 0, upd fE 0 (-1), upd fV 0 (-1)) := by
      refine (sim_all X0 16641).1 (fun _ => 0) (fun _ _ => 0) 0 0 W ⟨rfl, rfl, rfl⟩ hpos pk_us pk_us (by rw [pk_us, dm_eI0]) (Nat.le_refl _) (Nat.le_refl _) EO (by omega) (by omega) ?_ (by omega) (by omega)
      rw [hE0]
      omega
    obtain ⟨oc, u', v', R', hX, hY⟩ := G
    refine x_run ⟨16641, hX _ ?_ 16641 (Nat.le_refl _)⟩
    exact y_run ⟨16641, hY _ ⟨rfl, R' _⟩ 16641 (Nat.le_refl _)⟩
