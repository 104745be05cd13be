/-! run -/
section
variable {kd na nb se fn tg tn : Nat → Int32} {n B D : Nat}
theorem sE_all {K : Nat} (X0 : dm_Fx kd na nb se fn tg tn n B D) (hE : dm_SE kd na nb se fn tg tn n B D K) (hF : dm_SF kd na nb se fn tg tn n B D K) : dm_SE kd na nb se fn tg tn n B D (K + 1) := by
  intro m L p e oc cv pF pS cT cB bo wN wF wB wV vK vA vB eN eV eX fN fS fE fV hp ep un a w j gX q i s W St hi qN qS qE he hs EO hpos ha1 ha2 ha3 hpot gx
  obtain ⟨q, q1, q2, ek⟩ := dm_Pgk X0.1 hi
  by_cases k1 : kd i = 1
  · exact sE_num X0 W St hi qN qS qE he hs EO hpos ha1 ha2 ha3 hpot gx hF k1
  by_cases k2 : kd i = 2
  · exact sE_var X0 W St hi qN qS qE he hs EO hpos ha1 ha2 ha3 hpot gx hF k2
  by_cases k13 : kd i = 13
  · exact sE_fun X0 W St hi qN qS qE he hs EO hpos ha1 ha2 ha3 hpot gx hF k13
  by_cases k15 : kd i = 15
  · exact sE_rec X0 W St hi qN qS qE he hs EO hpos ha1 ha2 ha3 hpot gx hE k15
  refine sE_oth X0 W St hi qN qS qE he hs EO hpos ha1 ha2 ha3 hpot gx hE ?_
  rw [ek] at k1 k2 k13 k15 ⊢
  rcases (show q = 1 ∨ q = 2 ∨ q = 3 ∨ q = 4 ∨ q = 5 ∨ q = 6 ∨ q = 7 ∨ q = 8 ∨ q = 9 ∨ q = 10 ∨ q = 11 ∨ q = 12 ∨ q = 13 ∨ q = 14 ∨ q = 15 ∨ q = 16 by omega) with rfl | rfl | rfl | rfl | rfl | rfl | rfl | rfl | rfl | rfl | rfl | rfl | rfl | rfl | rfl | rfl
  · exact absurd rfl k1
  · exact absurd rfl k2
  · exact Or.inl rfl
  · exact Or.inr (Or.inl rfl)
  · exact Or.inr (Or.inr (Or.inl rfl))
  · exact Or.inr (Or.inr (Or.inr (Or.inl rfl)))
  · exact Or.inr (Or.inr (Or.inr (Or.inr (Or.inl rfl))))
  · exact Or.inr (Or.inr (Or.inr (Or.inr (Or.inr (Or.inl rfl)))))
  · exact Or.inr (Or.inr (Or.inr (Or.inr (Or.inr (Or.inr (Or.inl rfl))))))
  · exact Or.inr (Or.inr (Or.inr (Or.inr (Or.inr (Or.inr (Or.inr (Or.inl rfl)))))))
  · exact Or.inr (Or.inr (Or.inr (Or.inr (Or.inr (Or.inr (Or.inr (Or.inr (Or.inl rfl))))))))
  · exact Or.inr (Or.inr (Or.inr (Or.inr (Or.inr (Or.inr (Or.inr (Or.inr (Or.inr (Or.inl rfl)))))))))
  · exact absurd rfl k13
  · exact Or.inr (Or.inr (Or.inr (Or.inr (Or.inr (Or.inr (Or.inr (Or.inr (Or.inr (Or.inr (Or.inl rfl))))))))))
  · exact absurd rfl k15
  · exact Or.inr (Or.inr (Or.inr (Or.inr (Or.inr (Or.inr (Or.inr (Or.inr (Or.inr (Or.inr (Or.inr (rfl)))))))))))
theorem sF_all {K : Nat} (X0 : dm_Fx kd na nb se fn tg tn n B D) (hE : dm_SE kd na nb se fn tg tn n B D K) (hF : dm_SF kd na nb se fn tg tn n B D K) : dm_SF kd na nb se fn tg tn n B D (K + 1) := by
  intro m L p c cn cb cv pF pS cT cB bo wN wF wB wV vK vA vB eN eV eX fN fS fE fV hp ep un a w j gX q W St hc qv ha1 ha2 ha3 hpot gx
  cases j with
  | zero =>
    obtain ⟨rfl, rfl, rfl⟩ := St
    obtain ⟨P, C, b1, b2, d1, d2⟩ := X0
    have hun := W.2.2.2
    refine ⟨0, (nI B, nI D, nI n, nI (dm_O kd n), 1, nI (dm_cnt kd n), 0, nI un, nI 0, nI q, cv, nI 0, 0, cn, cb, cv, kd, na, nb, se, fn, tg, tn, pF, pS, cT, cB, bo, wN, wF, wB, wV), ?_, fun post h r hr => ?_⟩
    · exact ⟨n, q, un, rfl, rfl, rfl, rfl, rfl, rfl, ha2, hun, ha3, fun g => absurd g (by decide), fun g => absurd g (by decide), b1, b2, d1, d2, P, Or.inr ⟨rfl, rfl, C, Or.inr ⟨hp, m, vK, vA, vB, c, hc, qv, fun c hc => dm_HC_R (by omega) (W.1 c hc)⟩⟩⟩
    · obtain ⟨r, rfl⟩ : ∃ t, r = t + 1 := ⟨r - 1, by omega⟩
      exact x_end h
  | succ j =>
    obtain ⟨i, hi, qN, St⟩ := St
    rcases St with ⟨p', h1, h2, rfl, h4⟩ | ⟨w', a', p', rfl, rfl, rfl, h4, h5, h6, h7, h8, h9⟩ | ⟨w', p', e, s, rfl, rfl, h3, h4, h5, h6, h7, h8, h9, h10, h11, h12, h13⟩ | ⟨w', p', d, rfl, rfl, h3, h4, h5, h6, h7, h8, h9, h10, h11⟩
    · exact sF_T X0 W hi qN hc qv ha1 ha2 ha3 hpot gx h4 h1 h2 hF
    · exact sF_B X0 W hi qN hc qv ha1 ha2 ha3 hpot gx h9 h4 h5 h6 h7 h8 hF
    · rcases h4 with k | k | k | k | k | k | k | k | k | k | k | k
      · exact sF_one X0 W hi qN hc qv ha1 ha2 ha3 hpot gx h13 h3 h5 h6 h7 h8 h9 h10 h11 h12 (Or.inl k) hE
      · exact sF_one X0 W hi qN hc qv ha1 ha2 ha3 hpot gx h13 h3 h5 h6 h7 h8 h9 h10 h11 h12 (Or.inr (Or.inl k)) hE
      · exact sF_one X0 W hi qN hc qv ha1 ha2 ha3 hpot gx h13 h3 h5 h6 h7 h8 h9 h10 h11 h12 (Or.inr (Or.inr (Or.inl k))) hE
      · exact sF_one X0 W hi qN hc qv ha1 ha2 ha3 hpot gx h13 h3 h5 h6 h7 h8 h9 h10 h11 h12 (Or.inr (Or.inr (Or.inr (Or.inl k)))) hE
      · exact sF_one X0 W hi qN hc qv ha1 ha2 ha3 hpot gx h13 h3 h5 h6 h7 h8 h9 h10 h11 h12 (Or.inr (Or.inr (Or.inr (Or.inr (Or.inl k))))) hE
      · exact sF_one X0 W hi qN hc qv ha1 ha2 ha3 hpot gx h13 h3 h5 h6 h7 h8 h9 h10 h11 h12 (Or.inr (Or.inr (Or.inr (Or.inr (Or.inr (Or.inl k)))))) hE
      · exact sF_if X0 W hi qN hc qv ha1 ha2 ha3 hpot gx h13 h3 h5 h6 h7 h8 h9 h10 h11 h12 k hE
      · exact sF_one X0 W hi qN hc qv ha1 ha2 ha3 hpot gx h13 h3 h5 h6 h7 h8 h9 h10 h11 h12 (Or.inr (Or.inr (Or.inr (Or.inr (Or.inr (Or.inr (Or.inl k))))))) hE
      · exact sF_fst X0 W hi qN hc qv ha1 ha2 ha3 hpot gx h13 h3 h5 h6 h7 h8 h9 h10 h11 h12 k hF
      · exact sF_snd X0 W hi qN hc qv ha1 ha2 ha3 hpot gx h13 h3 h5 h6 h7 h8 h9 h10 h11 h12 k hF
      · exact sF_let X0 W hi qN hc qv ha1 ha2 ha3 hpot gx h13 h3 h5 h6 h7 h8 h9 h10 h11 h12 k hE
      · exact sF_one X0 W hi qN hc qv ha1 ha2 ha3 hpot gx h13 h3 h5 h6 h7 h8 h9 h10 h11 h12 (Or.inr (Or.inr (Or.inr (Or.inr (Or.inr (Or.inr (Or.inr (k)))))))) hE
    · rcases h4 with k | k | k | k | k | k | k | k
      · exact sF_bin X0 W hi qN hc qv ha1 ha2 ha3 hpot gx h11 h3 h5 h6 h7 h8 h9 h10 (Or.inl k) hF
      · exact sF_bin X0 W hi qN hc qv ha1 ha2 ha3 hpot gx h11 h3 h5 h6 h7 h8 h9 h10 (Or.inr (Or.inl k)) hF
      · exact sF_bin X0 W hi qN hc qv ha1 ha2 ha3 hpot gx h11 h3 h5 h6 h7 h8 h9 h10 (Or.inr (Or.inr (Or.inl k))) hF
      · exact sF_bin X0 W hi qN hc qv ha1 ha2 ha3 hpot gx h11 h3 h5 h6 h7 h8 h9 h10 (Or.inr (Or.inr (Or.inr (Or.inl k)))) hF
      · exact sF_bin X0 W hi qN hc qv ha1 ha2 ha3 hpot gx h11 h3 h5 h6 h7 h8 h9 h10 (Or.inr (Or.inr (Or.inr (Or.inr (Or.inl k))))) hF
      · exact sF_bin X0 W hi qN hc qv ha1 ha2 ha3 hpot gx h11 h3 h5 h6 h7 h8 h9 h10 (Or.inr (Or.inr (Or.inr (Or.inr (Or.inr (k)))))) hF
      · exact sF_pair X0 W hi qN hc qv ha1 ha2 ha3 hpot gx h11 h3 h5 h6 h7 h8 h9 h10 k hF
      · exact sF_app X0 W hi qN hc qv ha1 ha2 ha3 hpot gx h11 h3 h5 h6 h7 h8 h9 h10 k hE
theorem sim_all (X0 : dm_Fx kd na nb se fn tg tn n B D) : ∀ K, dm_SE kd na nb se fn tg tn n B D K ∧ dm_SF kd na nb se fn tg tn n B D K := by
  intro K
  induction K with
  | zero =>
    refine ⟨?_, ?_⟩
    · intro m L p e oc cv pF pS cT cB bo wN wF wB wV vK vA vB eN eV eX fN fS fE fV hp ep un a w j gX q i s W St hi qN qS qE he hs EO hpos ha1 ha2 ha3 hpot
      omega
    · intro m L p c cn cb cv pF pS cT cB bo wN wF wB wV vK vA vB eN eV eX fN fS fE fV hp ep un a w j gX q W St hc qv ha1 ha2 ha3 hpot
      omega
  | succ K ih => exact ⟨sE_all X0 ih.1 ih.2, sF_all X0 ih.1 ih.2⟩
end
