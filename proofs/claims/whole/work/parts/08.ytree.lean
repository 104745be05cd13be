/-! the reference's walks over the tree -/
theorem dm_ar_e {post : Int32 → Prop} {k : Int32} (a : Nat) (h : post (nI (dm_ar k))) (e : dm_ar k = a) : post (nI a) := e ▸ h
theorem dm_opn {o a : Nat} (h : 1 ≤ o) : nI o + (nI a - 1) = nI (o + a - 1) := by
  have e : nI o + (nI a - 1) = nI o + nI a - nI 1 := by
    show nI o + (nI a - 1) = nI o + nI a - 1
    grind
  rw [e, nI_add, pk_sub (by omega)]
def dm_kk (k : Int32) : Prop := ∃ q, 1 ≤ q ∧ q ≤ 16 ∧ k = nI q
theorem dm_kk1 {k : Int32} (h : dm_kk k) : ¬ k < 1 := by
  obtain ⟨q, h1, h2, rfl⟩ := h
  exact nI_nlt (b := 1) h1 (by omega)
theorem dm_kk16 {k : Int32} (h : dm_kk k) : ¬ 16 < k := by
  obtain ⟨q, h1, h2, rfl⟩ := h
  exact nI_nlt (a := 16) h2 (by omega)
theorem y_arity {yB yD yn yc yo yu ya yp yr yh ye ys er rt : Int32} {kd na nb vK vA vB eN eV eX fN fS fE fV : Nat → Int32} {post : Int32 → Prop} {k : Int32} (hk : dm_kk k) (h : post (nI (dm_ar k))) : wpY_arity post (yB, yD, yn, yc, yo, yu, ya, yp, yr, yh, ye, ys, er, rt, kd, na, nb, vK, vA, vB, eN, eV, eX, fN, fS, fE, fV) k := by
  by_cases c1 : k = 1
  · exact br_t c1 (dm_ar_e 0 h (by rw [c1]; decide))
  by_cases c2 : k = 2
  · exact br_f c1 (br_t c2 (dm_ar_e 0 h (by rw [c2]; decide)))
  by_cases c9 : k = 9
  · exact br_f c1 (br_f c2 (br_t c9 (dm_ar_e 3 h (by rw [c9]; decide))))
  by_cases c11 : k = 11
  · exact br_f c1 (br_f c2 (br_f c9 (br_t c11 (dm_ar_e 1 h (by rw [c11]; decide)))))
  by_cases c12 : k = 12
  · exact br_f c1 (br_f c2 (br_f c9 (br_f c11 (br_t c12 (dm_ar_e 1 h (by rw [c12]; decide))))))
  by_cases c13 : k = 13
  · exact br_f c1 (br_f c2 (br_f c9 (br_f c11 (br_f c12 (br_t c13 (dm_ar_e 1 h (by rw [c13]; decide)))))))
  have e : dm_ar k = 2 := by
    unfold dm_ar
    rw [if_neg (by rintro (a | a) <;> contradiction), if_neg c9, if_neg (by rintro (a | a | a) <;> contradiction)]
  exact br_f c1 (br_f c2 (br_f c9 (br_f c11 (br_f c12 (br_f c13 (br_f (dm_kk1 hk) (br_f (dm_kk16 hk) (dm_ar_e 2 h e))))))))
theorem x_cc {post : Int32 → Prop} {k : Int32} (hk : dm_kk k) (h : post (nI (dm_ar k))) : wpX_childCount post k := by
  refine br_f (dm_kk1 hk) ?_
  by_cases b : 13 < k
  · refine br_t b (dm_ar_e 2 h ?_)
    obtain ⟨q, h1, h2, rfl⟩ := hk
    have b2 : 13 < q := (nI_ltI (by omega) (by omega)).mp b
    rcases (show q = 14 ∨ q = 15 ∨ q = 16 by omega) with rfl | rfl | rfl <;> decide
  refine br_f b ?_
  by_cases c1 : k = 1
  · exact br_t c1 (dm_ar_e 0 h (by rw [c1]; decide))
  refine br_f c1 ?_
  by_cases c2 : k = 2
  · exact br_t c2 (dm_ar_e 0 h (by rw [c2]; decide))
  refine br_f c2 ?_
  by_cases c3 : k = 3
  · exact br_t c3 (dm_ar_e 2 h (by rw [c3]; decide))
  refine br_f c3 ?_
  by_cases c4 : k = 4
  · exact br_t c4 (dm_ar_e 2 h (by rw [c4]; decide))
  refine br_f c4 ?_
  by_cases c5 : k = 5
  · exact br_t c5 (dm_ar_e 2 h (by rw [c5]; decide))
  refine br_f c5 ?_
  by_cases c6 : k = 6
  · exact br_t c6 (dm_ar_e 2 h (by rw [c6]; decide))
  refine br_f c6 ?_
  by_cases c7 : k = 7
  · exact br_t c7 (dm_ar_e 2 h (by rw [c7]; decide))
  refine br_f c7 ?_
  by_cases c8 : k = 8
  · exact br_t c8 (dm_ar_e 2 h (by rw [c8]; decide))
  refine br_f c8 ?_
  by_cases c9 : k = 9
  · exact br_t c9 (dm_ar_e 3 h (by rw [c9]; decide))
  refine br_f c9 ?_
  by_cases c10 : k = 10
  · exact br_t c10 (dm_ar_e 2 h (by rw [c10]; decide))
  refine br_f c10 ?_
  by_cases c11 : k = 11
  · exact br_t c11 (dm_ar_e 1 h (by rw [c11]; decide))
  refine br_f c11 ?_
  by_cases c12 : k = 12
  · exact br_t c12 (dm_ar_e 1 h (by rw [c12]; decide))
  refine br_f c12 ?_
  by_cases c13 : k = 13
  · exact br_t c13 (dm_ar_e 1 h (by rw [c13]; decide))
  exact br_f c13 trivial
section
variable {yB yD yc yo yu ya yp yr yh ye ys er rt : Int32} {vK vA vB eN eV eX fN fS fE fV : Nat → Int32} {kd na nb : Nat → Int32} {n : Nat}
theorem dm_Pgk {k : Nat} (P : dm_Pg kd na nb n) (hk : k < n) : dm_kk (kd k) := (P.2.2 k hk).1
theorem y_open4 {post : Int32 → Prop} (P : dm_Pg kd na nb n) (h : post (nI (dm_O kd n))) : ∀ d k, k + d = n → wY_openPlaces_4 post yB yD (nI n) yc yo yu ya yp yr yh ye ys er rt kd na nb vK vA vB eN eV eX fN fS fE fV (d + 1) (nI (dm_O kd k)) (nI k) := by
  have hn := P.1
  intro d
  induction d with
  | zero =>
    intro k hk
    have e : k = n := by omega
    subst e
    exact br_t (nI_le (Nat.le_refl _) (by omega)) h
  | succ d ih =>
    intro k hk
    refine br_f (nI_ge (by omega) (by omega)) ⟨vp_in_nI (by omega) (by omega), ?_⟩
    rw [nI_clamp (by omega)]
    refine y_arity (dm_Pgk P (by omega)) ?_
    exact nm_r (dm_opn (P.2.1 k (by omega))) (nm_r (nI_1 k) (ih (k + 1) (by omega)))
theorem y_isC {post : Int32 → Prop} (P : dm_Pg kd na nb n) (h1 : dm_O kd n = 0 → post 1) (h0 : ¬ dm_O kd n = 0 → post 0) : wpY_isComplete post (yB, yD, nI n, yc, yo, yu, ya, yp, yr, yh, ye, ys, er, rt, kd, na, nb, vK, vA, vB, eN, eV, eX, fN, fS, fE, fV) := by
  have hn := P.1
  rcases Nat.eq_zero_or_pos n with z | z
  · subst z
    exact br_t (nI_le (a := 0) (b := 0) (Nat.le_refl 0) (by omega)) (h0 (by rw [dm_O0]; omega))
  · refine br_f (nI_nle z (by omega)) ?_
    refine ⟨n + 1, y_open4 P ?_ n 0 (by omega)⟩
    have hb := dm_O_b kd n
    by_cases e : dm_O kd n = 0
    · exact br_t (by rw [e]; rfl) (h1 e)
    · exact br_f (nI_ne0 (by omega) (by omega)) (h0 e)
theorem y_sub4 {post : Int32 → Prop} {i : Nat} (P : dm_Pg kd na nb n) (T : dm_Tr kd n) (hi : i < n) (h : post (nI (dm_E kd i))) : ∀ d k, k + d = dm_E kd i → i ≤ k → wY_subEnd_4 post yB yD (nI n) yc yo yu ya yp yr yh ye ys er rt kd na nb vK vA vB eN eV eX fN fS fE fV (d + 1) (nI (dm_O kd k + 1 - dm_O kd i)) (nI k) := by
  have hn := P.1
  obtain ⟨⟨a1, a2, a3⟩, a4⟩ := dm_E_s T hi
  intro d
  induction d with
  | zero =>
    intro k hk hik
    have e : k = dm_E kd i := by omega
    subst e
    refine br_t ?_ h
    rw [show dm_O kd (dm_E kd i) + 1 - dm_O kd i = 0 by omega]
    exact nI_le (a := 0) (b := 0) (Nat.le_refl 0) (by omega)
  | succ d ih =>
    intro k hk hik
    have b1 := a3 k hik (by omega)
    have b2 := dm_O_b kd k
    have b3 := T.1 k (by omega)
    refine br_f (nI_nle (by omega) (by omega)) (br_f (nI_pos (by omega)) (br_f (nI_ge (by omega) (by omega)) ⟨vp_in_nI (by omega) (by omega), ?_⟩))
    rw [nI_clamp (by omega)]
    refine y_arity (dm_Pgk P (by omega)) ?_
    refine nm_r (dm_opn (by omega)) (nm_r (nI_1 k) ?_)
    have e : dm_O kd k + 1 - dm_O kd i + dm_ar (kd k) - 1 = dm_O kd (k + 1) + 1 - dm_O kd i := by
      rw [dm_Os]
      omega
    rw [e]
    exact ih (k + 1) (by omega) (by omega)
theorem y_sub {post : Int32 → Prop} {i : Nat} (P : dm_Pg kd na nb n) (T : dm_Tr kd n) (hi : i < n) (h : post (nI (dm_E kd i))) : wpY_subEnd post (yB, yD, nI n, yc, yo, yu, ya, yp, yr, yh, ye, ys, er, rt, kd, na, nb, vK, vA, vB, eN, eV, eX, fN, fS, fE, fV) (nI i) := by
  have a1 := dm_E_gt T hi
  refine ⟨dm_E kd i - i + 1, ?_⟩
  have g : wY_subEnd_4 post yB yD (nI n) yc yo yu ya yp yr yh ye ys er rt kd na nb vK vA vB eN eV eX fN fS fE fV (dm_E kd i - i + 1) (nI (dm_O kd i + 1 - dm_O kd i)) (nI i) := y_sub4 P T hi h (dm_E kd i - i) i (by omega) (Nat.le_refl _)
  rw [show dm_O kd i + 1 - dm_O kd i = 1 by omega] at g
  exact g
theorem y_ch7 {post : Int32 → Prop} {i c : Nat} (P : dm_Pg kd na nb n) (T : dm_Tr kd n) (hi : i < n) (hc : c ≤ dm_ar (kd i)) (h : post (nI (dm_ch kd i c))) : ∀ d j, j + d = c → wY_childAt_7 post (nI c) yB yD (nI n) yc yo yu ya yp yr yh ye ys er rt kd na nb vK vA vB eN eV eX fN fS fE fV (d + 1) (nI (dm_ch kd i j)) (nI j) := by
  have hn := P.1
  have h3 := dm_ar3 (kd i)
  intro d
  induction d with
  | zero =>
    intro j hj
    have e : j = c := by omega
    subst e
    exact br_t (nI_le (Nat.le_refl _) (by omega)) h
  | succ d ih =>
    intro j hj
    refine br_f (nI_ge (by omega) (by omega)) (br_f (nI_ge (b := 3) (by omega) (by omega)) ?_)
    refine y_sub P T (dm_ch_lt T hi (by omega)) ?_
    exact nm_r (nI_1 j) (ih (j + 1) (by omega))
theorem y_ch {post : Int32 → Prop} {i c : Nat} (P : dm_Pg kd na nb n) (T : dm_Tr kd n) (hi : i < n) (hc : c ≤ dm_ar (kd i)) (h : post (nI (dm_ch kd i c))) : wpY_childAt post (yB, yD, nI n, yc, yo, yu, ya, yp, yr, yh, ye, ys, er, rt, kd, na, nb, vK, vA, vB, eN, eV, eX, fN, fS, fE, fV) (nI i) (nI c) := by
  refine nm_r (nI_1 i) ⟨c + 1, ?_⟩
  exact y_ch7 P T hi hc h c 0 (by omega)
theorem y_par4 {post : Int32 → Prop} {j : Nat} (P : dm_Pg kd na nb n) (T : dm_Tr kd n) (hj : j < n) (h0 : j = 0 → post (-1)) (h1 : ∀ p, dm_Pa kd p j → post (nI p)) : ∀ d, d ≤ j → (∀ q, d ≤ q → q < j → dm_E kd q ≤ j) → wY_parent_4 post (nI j) yB yD (nI n) yc yo yu ya yp yr yh ye ys er rt kd na nb vK vA vB eN eV eX fN fS fE fV (d + 1) (nI d - 1) := by
  have hn := P.1
  intro d
  induction d with
  | zero =>
    intro _ hq
    refine br_t (by decide) (h0 ?_)
    rcases Nat.eq_zero_or_pos j with z | z
    · exact z
    · have := hq 0 (by omega) z
      rw [dm_E_0 T] at this
      omega
  | succ d ih =>
    intro hd hq
    rw [nI_pred]
    refine br_f (nI_pos (by omega)) ?_
    refine y_sub P T (by omega) ?_
    have hl := dm_E_le T (i := d) (by omega)
    by_cases e : dm_E kd d ≤ j
    · refine br_t (nI_le e (by omega)) ?_
      refine nm_r (show nI d + (-1) = nI d - 1 by grind) (ih (by omega) (fun q h2 h3 => ?_))
      rcases Nat.eq_or_lt_of_le h2 with z | z
      · subst z
        exact e
      · exact hq q z h3
    · exact br_f (nI_ge (by omega) (by omega)) (h1 d ⟨by omega, by omega, fun q h2 h3 => hq q h2 h3⟩)
theorem y_par {post : Int32 → Prop} {j : Nat} (P : dm_Pg kd na nb n) (T : dm_Tr kd n) (hj : j < n) (h0 : j = 0 → post (-1)) (h1 : ∀ p, dm_Pa kd p j → post (nI p)) : wpY_parent post (yB, yD, nI n, yc, yo, yu, ya, yp, yr, yh, ye, ys, er, rt, kd, na, nb, vK, vA, vB, eN, eV, eX, fN, fS, fE, fV) (nI j) := by
  refine nm_e ⟨j + 1, ?_⟩
  exact y_par4 P T hj h0 h1 j (Nat.le_refl _) (fun q h2 h3 => by omega)
theorem y_ci14 {post : Int32 → Prop} {p c : Nat} (P : dm_Pg kd na nb n) (T : dm_Tr kd n) (hp : p < n) (hc : c < dm_ar (kd p)) (h : post (nI c)) : ∀ d j, j + d = c → wY_childIndex_14 post (nI p) (nI (dm_ch kd p c)) (nI (dm_ar (kd p))) yB yD (nI n) yc yo yu ya yp yr yh ye ys er rt kd na nb vK vA vB eN eV eX fN fS fE fV (d + 1) (nI j) := by
  have hn := P.1
  have h3 := dm_ar3 (kd p)
  have hl := dm_ch_lt T hp hc
  intro d
  induction d with
  | zero =>
    intro j hj
    have e : j = c := by omega
    subst e
    refine br_f (nI_ge hc (by omega)) (y_ch P T hp (by omega) ?_)
    exact br_t rfl h
  | succ d ih =>
    intro j hj
    refine br_f (nI_ge (by omega) (by omega)) (y_ch P T hp (by omega) ?_)
    have hl2 := dm_ch_lt T hp (c := j) (by omega)
    refine br_f (fun e => ?_) (nm_r (nI_1 j) (ih (j + 1) (by omega)))
    have e2 := (nI_eq (by omega) (by omega)).mp e
    have := dm_ch_inj T hp (by omega) hc e2
    omega
theorem y_ci {post : Int32 → Prop} {p c : Nat} (P : dm_Pg kd na nb n) (T : dm_Tr kd n) (hp : p < n) (hc : c < dm_ar (kd p)) (h : post (nI c)) : wpY_childIndex post (yB, yD, nI n, yc, yo, yu, ya, yp, yr, yh, ye, ys, er, rt, kd, na, nb, vK, vA, vB, eN, eV, eX, fN, fS, fE, fV) (nI p) (nI (dm_ch kd p c)) := by
  have hn := P.1
  refine ⟨vp_in_nI (by omega) (by omega), ?_⟩
  rw [nI_clamp (by omega)]
  refine y_arity (dm_Pgk P hp) ⟨c + 1, ?_⟩
  exact y_ci14 P T hp hc h c 0 (by omega)
theorem y_binds {post : Int32 → Prop} {p c : Nat} {x : Int32} (hn : n ≤ 32) (hp : p < n) (hc : c < 3) (h1 : dm_bd kd na nb p c x → post 1) (h0 : ¬ dm_bd kd na nb p c x → post 0) : wpY_binds post (yB, yD, nI n, yc, yo, yu, ya, yp, yr, yh, ye, ys, er, rt, kd, na, nb, vK, vA, vB, eN, eV, eX, fN, fS, fE, fV) (nI p) (nI c) x := by
  have c0 : nI c = 0 ↔ c = 0 := by
    rw [← nI_0]
    exact nI_eq (by omega) (by omega)
  have c1 : nI c = 1 ↔ c = 1 := nI_eq (b := 1) (by omega) (by omega)
  have hin : vp_in (nI p) 33 := vp_in_nI (by omega) (by omega)
  refine ⟨hin, ?_⟩
  rw [nI_clamp (by omega)]
  refine nm_e ?_
  unfold dm_bd at h1 h0
  by_cases k13 : kd p = 13
  · refine br_t k13 ?_
    by_cases z : c = 0
    · refine br_t (c0.mpr z) ⟨hin, ?_⟩
      by_cases w : na p = x
      · exact br_t w (h1 (Or.inl ⟨k13, z, w⟩))
      · refine br_f w (h0 ?_)
        rw [k13]
        rintro (⟨_, _, g⟩ | ⟨g, _⟩ | ⟨g, _⟩)
        · exact w g
        · exact absurd g (by decide)
        · exact absurd g (by decide)
    · refine br_f (fun g => z (c0.mp g)) (h0 ?_)
      rw [k13]
      rintro (⟨_, g, _⟩ | ⟨g, _⟩ | ⟨g, _⟩)
      · exact z g
      · exact absurd g (by decide)
      · exact absurd g (by decide)
  refine br_f k13 ?_
  by_cases k14 : kd p = 14
  · refine br_t k14 ?_
    by_cases z : c = 1
    · refine br_t (c1.mpr z) ⟨hin, ?_⟩
      by_cases w : na p = x
      · exact br_t w (h1 (Or.inr (Or.inl ⟨k14, z, w⟩)))
      · refine br_f w (h0 ?_)
        rintro (⟨g, _⟩ | ⟨_, _, g⟩ | ⟨g, _⟩)
        · exact k13 g
        · exact w g
        · rw [k14] at g
          exact absurd g (by decide)
    · refine br_f (fun g => z (c1.mp g)) (h0 ?_)
      rintro (⟨g, _⟩ | ⟨_, g, _⟩ | ⟨g, _⟩)
      · exact k13 g
      · exact z g
      · rw [k14] at g
        exact absurd g (by decide)
  refine br_f k14 ?_
  by_cases k15 : kd p = 15
  · refine br_t k15 ?_
    have tail : ¬ (c = 0 ∧ (na p = x ∨ nb p = x)) → wY_binds_94 post (nI p) (nI c) x yB yD (nI n) yc yo yu ya yp yr yh ye ys er rt kd na nb vK vA vB eN eV eX fN fS fE fV := by
      intro hz
      by_cases z1 : c = 1
      · refine br_t (c1.mpr z1) ⟨hin, ?_⟩
        rw [nI_clamp (by omega)]
        by_cases w : na p = x
        · exact br_t w (h1 (Or.inr (Or.inr ⟨k15, Or.inr ⟨z1, w⟩⟩)))
        · refine br_f w (h0 ?_)
          rintro (⟨g, _⟩ | ⟨g, _⟩ | ⟨_, g | ⟨_, g⟩⟩)
          · exact k13 g
          · exact k14 g
          · exact hz g
          · exact w g
      · refine br_f (fun g => z1 (c1.mp g)) (h0 ?_)
        rintro (⟨g, _⟩ | ⟨g, _⟩ | ⟨_, g | ⟨g, _⟩⟩)
        · exact k13 g
        · exact k14 g
        · exact hz g
        · exact z1 g
    by_cases z : c = 0
    · refine br_t (c0.mpr z) ⟨hin, ?_⟩
      by_cases w : na p = x
      · exact br_t w (h1 (Or.inr (Or.inr ⟨k15, Or.inl ⟨z, Or.inl w⟩⟩)))
      · refine br_f w ⟨hin, ?_⟩
        by_cases w2 : nb p = x
        · exact br_t w2 (h1 (Or.inr (Or.inr ⟨k15, Or.inl ⟨z, Or.inr w2⟩⟩)))
        · exact br_f w2 (tail (fun g => g.2.elim w w2))
    · exact br_f (fun g => z (c0.mp g)) (tail (fun g => z g.1))
  · refine br_f k15 (h0 ?_)
    rintro (⟨g, _⟩ | ⟨g, _⟩ | ⟨g, _⟩)
    · exact k13 g
    · exact k14 g
    · exact k15 g
/-- top: -1, or a node above cur -/
theorem y_bound13 {post : Int32 → Prop} {v t : Nat} {x2 x : Int32} (P : dm_Pg kd na nb n) (T : dm_Tr kd n) (hv : v < n) (ht : t < n) (hx2 : (x2 = -1 ∧ t = 0) ∨ x2 = nI t) (h1 : ¬ dm_UB kd na nb n v t x → post 1) (h0 : dm_UB kd na nb n v t x → post 0) :
    ∀ d cur, cur ≤ d → t ≤ cur → (x2 = nI t → t < cur) → cur ≤ v → v < dm_E kd cur → cur < dm_E kd t → dm_UB kd na nb n v cur x → ∀ s, s + cur ≤ 32 → wY_bound_13 post x2 x yB yD (nI n) yc yo yu ya yp yr yh ye ys er rt kd na nb vK vA vB eN eV eX fN fS fE fV (d + 1) (nI cur) (nI s) := by
  have hn := P.1
  intro d
  induction d with
  | zero =>
    intro cur hd htc htx hcv hvE hcE hU s hs
    have e : cur = 0 := by omega
    subst e
    have et : t = 0 := by omega
    subst et
    refine br_f (nI_ge (b := 33) (by omega) (by omega)) (y_par P T (by omega) (fun _ => ?_) (fun p hp => ?_))
    · exact br_f (by decide) (h0 hU)
    · have := hp.1
      omega
  | succ d ih =>
    intro cur hd htc htx hcv hvE hcE hU s hs
    refine br_f (nI_ge (b := 33) (by omega) (by omega)) (y_par P T (by omega) (fun e => ?_) (fun p hp => ?_))
    · subst e
      have et : t = 0 := by omega
      subst et
      exact br_f (by decide) (h0 hU)
    · have hpl := hp.1
      obtain ⟨c, hc, rfl⟩ := dm_Pa_ch T (by omega) hp
      have h3 := dm_ar3 (kd p)
      have htp : t ≤ p := by
        apply Nat.le_of_not_lt
        intro z
        have := hp.2.2
        rcases Nat.lt_or_ge t (dm_ch kd p c) with w | w
        · have := hp.2.2 t z w
          omega
        · have et : t = dm_ch kd p c := by omega
          rcases hx2 with ⟨_, e0⟩ | e1
          · omega
          · have := htx e1
            omega
      refine br_t (nI_pos' (by omega)) (y_ci P T (by omega) hc (y_binds hn (by omega) (by omega) (fun hb => ?_) (fun hb => ?_)))
      · refine br_f (by decide) (h1 (fun hUt => ?_))
        exact hUt p c htp (by omega) hc hcv hvE hb
      · have hUp := dm_UB_up T (by omega) hc hcv hvE hU hb
        refine br_t rfl ?_
        have hin := dm_ch_in T (i := p) (by omega) hc
        by_cases e : nI p = x2
        · have ept : p = t := by
            rcases hx2 with ⟨e0, _⟩ | e1
            · rw [e0] at e
              have := nI_pos' (n := p) (by omega)
              rw [e] at this
              exact absurd this (by decide)
            · rw [e1] at e
              exact (nI_eq (by omega) (by omega)).mp e
          subst ept
          exact br_t e (h0 hUp)
        · refine br_f e (nm_r (nI_1 s) (ih p (by omega) htp (fun e1 => ?_) (by omega) (by omega) (by omega) hUp (s + 1) (by omega)))
          rcases Nat.eq_or_lt_of_le htp with z | z
          · subst z
            exact absurd e1.symm e
          · exact z
theorem y_bound {post : Int32 → Prop} {v t : Nat} {x2 : Int32} (P : dm_Pg kd na nb n) (T : dm_Tr kd n) (hv : v < n) (ht : t < n) (hx2 : (x2 = -1 ∧ t = 0) ∨ (x2 = nI t ∧ t < v ∧ v < dm_E kd t)) (h1 : ¬ dm_UB kd na nb n v t (na v) → post 1) (h0 : dm_UB kd na nb n v t (na v) → post 0) : wpY_bound post (yB, yD, nI n, yc, yo, yu, ya, yp, yr, yh, ye, ys, er, rt, kd, na, nb, vK, vA, vB, eN, eV, eX, fN, fS, fE, fV) (nI v) x2 := by
  have hn := P.1
  refine ⟨vp_in_nI (by omega) (by omega), ?_⟩
  rw [nI_clamp (by omega)]
  refine nm_e ⟨v + 1, ?_⟩
  have hx3 : (x2 = -1 ∧ t = 0) ∨ x2 = nI t := by
    rcases hx2 with h | h
    · exact Or.inl h
    · exact Or.inr h.1
  refine y_bound13 P T hv ht hx3 h1 h0 v v (Nat.le_refl _) ?_ ?_ (Nat.le_refl _) (dm_E_gt T hv) ?_ (dm_UB_v T) 0 (by omega)
  · rcases hx2 with h | h <;> omega
  · intro e
    rcases hx2 with h | h
    · rw [h.1] at e
      have := nI_pos' (n := t) (by omega)
      rw [← e] at this
      exact absurd this (by decide)
    · exact h.2.1
  · rcases hx2 with h | h
    · rw [h.2, dm_E_0 T]
      exact hv
    · exact h.2.2
end
