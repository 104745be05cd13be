/-! X's compile -/
theorem dm_one : ∀ y, y < 8 → ∀ x, x < 32 → bt ((1 : Int32) <<< (nI y &&& 31)) x = decide (x = y) := by decide +kernel
theorem dm_not (w : Int32) {x : Nat} (hx : x < 32) : bt (w ^^^ (-1)) x = !bt w x := by
  rw [b_xor, b_m1 x hx]
  cases bt w x <;> rfl
theorem dm_nIe {x y : Nat} (hx : x < 32) (hy : y < 32) : nI y = nI x ↔ x = y := by
  rw [nI_eq (by omega) (by omega)]
  exact eq_comm
def dm_fl (kd na nb fn : Nat → Int32) (l : Nat) : Int32 := fn (l + 1) &&& ((if kd l = 15 then ((1 : Int32) <<< (na l &&& 31)) ||| ((1 : Int32) <<< (nb l &&& 31)) else ((1 : Int32) <<< (na l &&& 31))) ^^^ (-1))
noncomputable def dm_fu (kd na fn : Nat → Int32) (i : Nat) : Int32 := fn (dm_ch kd i 1) &&& (((1 : Int32) <<< (na i &&& 31)) ^^^ (-1))
section
variable {kd na nb fn : Nat → Int32} {n i x : Nat}
theorem dm_fl_b (P : dm_Pg kd na nb n) (hi : i < n) (hk : kd i = 13 ∨ kd i = 15) (hx : x < 32) : bt (dm_fl kd na nb fn i) x = true ↔ bt (fn (i + 1)) x = true ∧ ¬ dm_bd kd na nb i 0 (nI x) := by
  obtain ⟨_, pa, pb⟩ := P.2.2 i hi
  obtain ⟨y, hy, ey⟩ := pa (by rcases hk with h | h <;> simp [h])
  unfold dm_fl
  rw [b_and, dm_not _ hx]
  rcases hk with h | h
  · rw [if_neg (by rw [h]; decide), ey, dm_one y hy x hx]
    have e : dm_bd kd na nb i 0 (nI x) ↔ x = y := by
      unfold dm_bd
      rw [h, ey, dm_nIe hx (by omega)]
      constructor
      · rintro (⟨_, _, g⟩ | ⟨g, _⟩ | ⟨g, _⟩)
        · exact g
        · exact absurd g (by decide)
        · exact absurd g (by decide)
      · exact fun g => Or.inl ⟨rfl, rfl, g⟩
    rw [e]
    simp
  · obtain ⟨z, hz, ez⟩ := pb h
    rw [if_pos h, ey, ez, b_or, dm_one y hy x hx, dm_one z hz x hx]
    have e : dm_bd kd na nb i 0 (nI x) ↔ (x = y ∨ x = z) := by
      unfold dm_bd
      rw [h, ey, ez, dm_nIe hx (by omega), dm_nIe hx (by omega)]
      constructor
      · rintro (⟨g, _⟩ | ⟨g, _⟩ | ⟨_, ⟨_, g⟩ | ⟨g, _⟩⟩)
        · exact absurd g (by decide)
        · exact absurd g (by decide)
        · exact g
        · omega
      · exact fun g => Or.inr (Or.inr ⟨rfl, Or.inl ⟨rfl, g⟩⟩)
    rw [e]
    simp
theorem dm_fu_b (P : dm_Pg kd na nb n) (hi : i < n) (hk : kd i = 14 ∨ kd i = 15) (hx : x < 32) : bt (dm_fu kd na fn i) x = true ↔ bt (fn (dm_ch kd i 1)) x = true ∧ ¬ dm_bd kd na nb i 1 (nI x) := by
  obtain ⟨_, pa, pb⟩ := P.2.2 i hi
  obtain ⟨y, hy, ey⟩ := pa (by rcases hk with h | h <;> simp [h])
  unfold dm_fu
  rw [b_and, dm_not _ hx, ey, dm_one y hy x hx]
  have e : dm_bd kd na nb i 1 (nI x) ↔ x = y := by
    unfold dm_bd
    rw [ey, dm_nIe hx (by omega)]
    constructor
    · rintro (⟨_, g, _⟩ | ⟨_, _, g⟩ | ⟨_, ⟨g, _⟩ | ⟨_, g⟩⟩)
      · omega
      · exact g
      · omega
      · exact g
    · intro g
      rcases hk with h | h
      · exact Or.inr (Or.inl ⟨h, rfl, g⟩)
      · exact Or.inr (Or.inr ⟨h, Or.inr ⟨rfl, g⟩⟩)
  rw [e]
  simp
/-- what freeNames holds at one node -/
def dm_FNi (kd na nb fn : Nat → Int32) (i : Nat) (w : Int32) : Prop := ∀ x, x < 32 → (bt w x = true ↔ ((kd i = 2 ∧ na i = nI x) ∨ ∃ c, c < dm_ar (kd i) ∧ bt (fn (dm_ch kd i c)) x = true ∧ ¬ dm_bd kd na nb i c (nI x)))
theorem dm_FNi_var (P : dm_Pg kd na nb n) (hi : i < n) (hk : kd i = 2) : dm_FNi kd na nb fn i ((1 : Int32) <<< (na i &&& 31)) := by
  obtain ⟨_, pa, pb⟩ := P.2.2 i hi
  obtain ⟨y, hy, ey⟩ := pa (Or.inl hk)
  intro x hx
  rw [ey, dm_one y hy x hx, dm_nIe hx (by omega)]
  have ea : dm_ar (kd i) = 0 := by
    rw [hk]
    decide
  rw [ea]
  constructor
  · intro g
    exact Or.inl ⟨hk, of_decide_eq_true g⟩
  · rintro (⟨_, g⟩ | ⟨c, g, _⟩)
    · exact decide_eq_true g
    · omega
theorem dm_FNi_fun (P : dm_Pg kd na nb n) (hi : i < n) (hk : kd i = 13) : dm_FNi kd na nb fn i (dm_fl kd na nb fn i) := by
  intro x hx
  rw [dm_fl_b P hi (Or.inl hk) hx]
  have ea : dm_ar (kd i) = 1 := by
    rw [hk]
    decide
  rw [ea]
  constructor
  · exact fun g => Or.inr ⟨0, by omega, g.1, g.2⟩
  · rintro (⟨g, _⟩ | ⟨c, g, g2⟩)
    · rw [hk] at g
      exact absurd g (by decide)
    · have : c = 0 := by omega
      subst this
      exact g2
theorem dm_FNi_let (P : dm_Pg kd na nb n) (hi : i < n) (hk : kd i = 14) : dm_FNi kd na nb fn i (fn (i + 1) ||| dm_fu kd na fn i) := by
  intro x hx
  have ea : dm_ar (kd i) = 2 := by
    rw [hk]
    decide
  have nb0 : ¬ dm_bd kd na nb i 0 (nI x) := by
    unfold dm_bd
    rw [hk]
    rintro (⟨g, _⟩ | ⟨_, g, _⟩ | ⟨g, _⟩)
    · exact absurd g (by decide)
    · omega
    · exact absurd g (by decide)
  rw [b_or, Bool.or_eq_true, dm_fu_b P hi (Or.inl hk) hx, ea]
  constructor
  · rintro (g | g)
    · exact Or.inr ⟨0, by omega, g, nb0⟩
    · exact Or.inr ⟨1, by omega, g.1, g.2⟩
  · rintro (⟨g, _⟩ | ⟨c, g, g2⟩)
    · rw [hk] at g
      exact absurd g (by decide)
    · rcases (show c = 0 ∨ c = 1 by omega) with e | e
      · subst e
        exact Or.inl g2.1
      · subst e
        exact Or.inr g2
theorem dm_FNi_rec (P : dm_Pg kd na nb n) (hi : i < n) (hk : kd i = 15) : dm_FNi kd na nb fn i (dm_fl kd na nb fn i ||| dm_fu kd na fn i) := by
  intro x hx
  have ea : dm_ar (kd i) = 2 := by
    rw [hk]
    decide
  rw [b_or, Bool.or_eq_true, dm_fl_b P hi (Or.inr hk) hx, dm_fu_b P hi (Or.inr hk) hx, ea]
  constructor
  · rintro (g | g)
    · exact Or.inr ⟨0, by omega, g.1, g.2⟩
    · exact Or.inr ⟨1, by omega, g.1, g.2⟩
  · rintro (⟨g, _⟩ | ⟨c, g, g2⟩)
    · rw [hk] at g
      exact absurd g (by decide)
    · rcases (show c = 0 ∨ c = 1 by omega) with e | e
      · subst e
        exact Or.inl g2
      · subst e
        exact Or.inr g2
theorem dm_FNi_oth {w : Int32} (k2 : ¬ kd i = 2) (k13 : ¬ kd i = 13) (k14 : ¬ kd i = 14) (k15 : ¬ kd i = 15) (h : ∀ x, x < 32 → (bt w x = true ↔ ∃ c, c < dm_ar (kd i) ∧ bt (fn (dm_ch kd i c)) x = true)) : dm_FNi kd na nb fn i w := by
  intro x hx
  have nb0 : ∀ c, ¬ dm_bd kd na nb i c (nI x) := by
    intro c
    rintro (⟨g, _⟩ | ⟨g, _⟩ | ⟨g, _⟩)
    · exact k13 g
    · exact k14 g
    · exact k15 g
  rw [h x hx]
  constructor
  · rintro ⟨c, g1, g2⟩
    exact Or.inr ⟨c, g1, g2, nb0 c⟩
  · rintro (⟨g, _⟩ | ⟨c, g1, g2, _⟩)
    · exact absurd g k2
    · exact ⟨c, g1, g2⟩
end
section
variable {xB xD xn xo xc xl oc xu xa pk xw en cn cb : Int32} {xr cv : Int64} {se fn tg tn cT cB wN wF wB : Nat → Int32} {pF pS bo wV : Nat → Int64} {kd na nb : Nat → Int32} {n i : Nat}
theorem x_meas17 {post : St2 → Prop} (P : dm_Pg kd na nb n) (T : dm_Tr kd n) (hi : i < n) (S : ∀ j, i < j → j < n → se j = nI (dm_E kd j)) (h : post (xB, xD, xn, xo, xc, xl, oc, xu, xa, pk, xr, xw, en, cn, cb, cv, kd, na, nb, upd se i (nI (dm_E kd i)), fn, tg, tn, pF, pS, cT, cB, bo, wN, wF, wB, wV)) : ∀ d c, c + d = dm_ar (kd i) → wX_measureSubtree_17 post (nI i) (nI (dm_ar (kd i))) xB xD xn xo xc xl oc xu xa pk xr xw en cn cb cv kd na nb se fn tg tn pF pS cT cB bo wN wF wB wV (d + 1) (nI (dm_ch kd i c)) (nI c) := by
  have hn := P.1
  have h3 := dm_ar3 (kd i)
  intro d
  induction d with
  | zero =>
    intro c hc
    have e : c = dm_ar (kd i) := by omega
    subst e
    rw [← dm_ch_E T hi]
    refine br_t (nI_le (Nat.le_refl _) (by omega)) ⟨vp_in_nI (by omega) (by omega), ?_⟩
    rw [nI_clamp (by omega)]
    exact nm_e h
  | succ d ih =>
    intro c hc
    have hl := dm_ch_lt T hi (c := c) (by omega)
    have hg := dm_ch_gt T hi (c := c) (by omega)
    refine br_f (nI_ge (by omega) (by omega)) ⟨vp_in_nI (by omega) (by omega), nm_r ?_ (nm_r (nI_1 c) (ih (c + 1) (by omega)))⟩
    rw [nI_clamp (by omega), S _ hg hl, dm_chs]
theorem x_meas {post : St2 → Prop} (P : dm_Pg kd na nb n) (T : dm_Tr kd n) (hi : i < n) (S : ∀ j, i < j → j < n → se j = nI (dm_E kd j)) (h : post (xB, xD, xn, xo, xc, xl, oc, xu, xa, pk, xr, xw, en, cn, cb, cv, kd, na, nb, upd se i (nI (dm_E kd i)), fn, tg, tn, pF, pS, cT, cB, bo, wN, wF, wB, wV)) : wpX_measureSubtree post (xB, xD, xn, xo, xc, xl, oc, xu, xa, pk, xr, xw, en, cn, cb, cv, kd, na, nb, se, fn, tg, tn, pF, pS, cT, cB, bo, wN, wF, wB, wV) (nI i) := by
  have hn := P.1
  refine ⟨vp_in_nI (by omega) (by omega), ?_⟩
  rw [nI_clamp (by omega)]
  refine x_cc (dm_Pgk P hi) (nm_r (nI_1 i) ⟨dm_ar (kd i) + 1, ?_⟩)
  exact x_meas17 P T hi S h (dm_ar (kd i)) 0 (by omega)
theorem x_fl {post : Int32 → Prop} {l : Nat} (hl : l + 1 < 32) (h : post (dm_fl kd na nb fn l)) : wpX_freeInLambda post (xB, xD, xn, xo, xc, xl, oc, xu, xa, pk, xr, xw, en, cn, cb, cv, kd, na, nb, se, fn, tg, tn, pF, pS, cT, cB, bo, wN, wF, wB, wV) (nI l) := by
  have hin : vp_in (nI l) 32 := vp_in_nI (by omega) (by omega)
  have hin2 : vp_in (nI l + 1) 32 := by
    rw [nI_1]
    exact vp_in_nI (by omega) (by omega)
  refine ⟨hin, ?_⟩
  rw [nI_clamp (by omega)]
  refine nm_e ⟨hin, ?_⟩
  unfold dm_fl at h
  by_cases c : kd l = 15
  · rw [if_pos c] at h
    refine br_t c ⟨hin, nm_e ⟨hin2, ?_⟩⟩
    rw [nI_1, nI_clamp (by omega)]
    exact h
  · rw [if_neg c] at h
    refine br_f c ⟨hin2, ?_⟩
    rw [nI_1, nI_clamp (by omega)]
    exact h
theorem x_sec {post : Int32 → Prop} (hn : n ≤ 32) (hi : i + 1 < n) (S : se (i + 1) = nI (dm_E kd (i + 1))) (h : post (nI (dm_ch kd i 1))) : wpX_secondChild post (xB, xD, xn, xo, xc, xl, oc, xu, xa, pk, xr, xw, en, cn, cb, cv, kd, na, nb, se, fn, tg, tn, pF, pS, cT, cB, bo, wN, wF, wB, wV) (nI i) := by
  refine ⟨?_, ?_⟩
  · rw [nI_1]
    exact vp_in_nI (by omega) (by omega)
  · rw [nI_1, nI_clamp (by omega), S]
    exact h
theorem x_fu {post : Int32 → Prop} (P : dm_Pg kd na nb n) (T : dm_Tr kd n) (hi : i < n) (ha : dm_ar (kd i) = 2) (S : ∀ j, i < j → j < n → se j = nI (dm_E kd j)) (h : post (dm_fu kd na fn i)) : wpX_freeUnderBinding post (xB, xD, xn, xo, xc, xl, oc, xu, xa, pk, xr, xw, en, cn, cb, cv, kd, na, nb, se, fn, tg, tn, pF, pS, cT, cB, bo, wN, wF, wB, wV) (nI i) := by
  have hn := P.1
  have h0 := dm_ch_lt T hi (c := 0) (by omega)
  have h1 := dm_ch_lt T hi (c := 1) (by omega)
  rw [dm_ch0] at h0
  unfold wpX_freeUnderBinding
  refine x_sec hn h0 (S _ (by omega) h0) ⟨vp_in_nI (by omega) (by omega), vp_in_nI (by omega) (by omega), ?_⟩
  rw [nI_clamp (by omega), nI_clamp (by omega)]
  exact h
theorem x_fc20 {post : Int32 → Prop} (P : dm_Pg kd na nb n) (T : dm_Tr kd n) (hi : i < n) (S : ∀ j, i < j → j < n → se j = nI (dm_E kd j)) (h : ∀ w, (∀ x, x < 32 → (bt w x = true ↔ ∃ c, c < dm_ar (kd i) ∧ bt (fn (dm_ch kd i c)) x = true)) → post w) : ∀ d c w, c + d = dm_ar (kd i) → (∀ x, x < 32 → (bt w x = true ↔ ∃ c', c' < c ∧ bt (fn (dm_ch kd i c')) x = true)) → wX_freeInChildren_20 post (nI (dm_ar (kd i))) xB xD xn xo xc xl oc xu xa pk xr xw en cn cb cv kd na nb se fn tg tn pF pS cT cB bo wN wF wB wV (d + 1) w (nI (dm_ch kd i c)) (nI c) := by
  have hn := P.1
  have h3 := dm_ar3 (kd i)
  intro d
  induction d with
  | zero =>
    intro c w hc hw
    have e : c = dm_ar (kd i) := by omega
    subst e
    exact br_t (nI_le (Nat.le_refl _) (by omega)) (h w hw)
  | succ d ih =>
    intro c w hc hw
    have hl := dm_ch_lt T hi (c := c) (by omega)
    have hg := dm_ch_gt T hi (c := c) (by omega)
    have hin : vp_in (nI (dm_ch kd i c)) 32 := vp_in_nI (by omega) (by omega)
    refine br_f (nI_ge (by omega) (by omega)) ⟨hin, ?_⟩
    rw [nI_clamp (by omega), S _ hg hl]
    refine nm_e ⟨hin, nm_e (nm_r (nI_1 c) (ih (c + 1) _ (by omega) (fun x hx => ?_)))⟩
    rw [b_or, Bool.or_eq_true, hw x hx]
    constructor
    · rintro (⟨c', g1, g2⟩ | g)
      · exact ⟨c', by omega, g2⟩
      · exact ⟨c, by omega, g⟩
    · rintro ⟨c', g1, g2⟩
      rcases Nat.eq_or_lt_of_le (show c' ≤ c by omega) with z | z
      · subst z
        exact Or.inr g2
      · exact Or.inl ⟨c', z, g2⟩
theorem x_fn {post : Int32 → Prop} (P : dm_Pg kd na nb n) (T : dm_Tr kd n) (hi : i < n) (S : ∀ j, i < j → j < n → se j = nI (dm_E kd j)) (h : ∀ w, dm_FNi kd na nb fn i w → post w) : wpX_freeInNode post (xB, xD, xn, xo, xc, xl, oc, xu, xa, pk, xr, xw, en, cn, cb, cv, kd, na, nb, se, fn, tg, tn, pF, pS, cT, cB, bo, wN, wF, wB, wV) (nI i) := by
  have hn := P.1
  have hin : vp_in (nI i) 32 := vp_in_nI (by omega) (by omega)
  refine ⟨hin, ?_⟩
  rw [nI_clamp (by omega)]
  refine nm_e ?_
  by_cases k2 : kd i = 2
  · exact br_t k2 ⟨hin, h _ (dm_FNi_var P hi k2)⟩
  refine br_f k2 ?_
  by_cases k13 : kd i = 13
  · have h0 := dm_ch_lt T hi (c := 0) (by rw [k13]; decide)
    rw [dm_ch0] at h0
    exact br_t k13 (x_fl (by omega) (h _ (dm_FNi_fun P hi k13)))
  refine br_f k13 ?_
  by_cases k14 : kd i = 14
  · have h0 := dm_ch_lt T hi (c := 0) (by rw [k14]; decide)
    rw [dm_ch0] at h0
    refine br_t k14 ⟨?_, ?_⟩
    · rw [nI_1]
      exact vp_in_nI (by omega) (by omega)
    · refine x_fu P T hi (by rw [k14]; decide) S ?_
      rw [nI_1, nI_clamp (by omega)]
      exact h _ (dm_FNi_let P hi k14)
  refine br_f k14 ?_
  by_cases k15 : kd i = 15
  · have h0 := dm_ch_lt T hi (c := 0) (by rw [k15]; decide)
    rw [dm_ch0] at h0
    refine br_t k15 (x_fl (by omega) (x_fu P T hi (by rw [k15]; decide) S (h _ (dm_FNi_rec P hi k15))))
  refine br_f k15 ⟨hin, ?_⟩
  rw [nI_clamp (by omega)]
  refine x_cc (dm_Pgk P hi) (nm_r (nI_1 i) ⟨dm_ar (kd i) + 1, ?_⟩)
  refine x_fc20 P T hi S (fun w hw => h w (dm_FNi_oth k2 k13 k14 k15 hw)) (dm_ar (kd i)) 0 0 (by omega) (fun x hx => ?_)
  rw [b_0]
  constructor
  · intro g
    exact absurd g (by decide)
  · rintro ⟨c', g, _⟩
    omega
theorem x_ana7 {post : St2 → Prop} (P : dm_Pg kd na nb n) (T : dm_Tr kd n) : ∀ (d : Nat) (se fn : Nat → Int32), d ≤ n → (∀ j, d ≤ j → j < n → se j = nI (dm_E kd j)) → (∀ j, d ≤ j → j < n → dm_FNi kd na nb fn j (fn j)) → (∀ se' fn', (∀ j, j < n → se' j = nI (dm_E kd j)) → dm_FN kd na nb n fn' → post (xB, xD, xn, xo, xc, xl, oc, xu, xa, pk, xr, xw, en, cn, cb, cv, kd, na, nb, se', fn', tg, tn, pF, pS, cT, cB, bo, wN, wF, wB, wV)) → wX_analyse_7 post (d + 1) (nI d - 1) xB xD xn xo xc xl oc xu xa pk xr xw en cn cb cv kd na nb se fn tg tn pF pS cT cB bo wN wF wB wV := by
  have hn := P.1
  intro d
  induction d with
  | zero =>
    intro se fn _ h1 h2 h
    exact br_t (by decide) (h se fn (fun j hj => h1 j (by omega) hj) (fun j hj => h2 j (by omega) hj))
  | succ d ih =>
    intro se fn hd h1 h2 h
    rw [nI_pred]
    refine br_f (nI_pos (by omega)) (x_meas P T (by omega) (fun j hj hjn => h1 j hj hjn) ?_)
    have h1' : ∀ j, d ≤ j → j < n → upd se d (nI (dm_E kd d)) j = nI (dm_E kd j) := by
      intro j h3 h4
      rcases Nat.eq_or_lt_of_le h3 with z | z
      · subst z
        rw [pk_us]
      · rw [pk_un (by omega), h1 j z h4]
    refine x_fn P T (i := d) (by omega) (fun j hj hjn => h1' j (by omega) hjn) (fun w hw => ⟨vp_in_nI (by omega) (by omega), ?_⟩)
    rw [nI_clamp (by omega)]
    refine nm_e (nm_r (show nI d + (-1) = nI d - 1 by grind) (ih (upd se d (nI (dm_E kd d))) (upd fn d w) (by omega) h1' (fun j h3 h4 => ?_) h))
    have key : ∀ c, c < dm_ar (kd j) → upd fn d w (dm_ch kd j c) = fn (dm_ch kd j c) := by
      intro c hc
      have := dm_ch_gt T h4 (Nat.le_of_lt hc)
      exact pk_un (by omega)
    have tr : ∀ w', dm_FNi kd na nb fn j w' → dm_FNi kd na nb (upd fn d w) j w' := by
      intro w' g x hx
      rw [g x hx]
      constructor
      · rintro (g1 | ⟨c, g1, g2, g3⟩)
        · exact Or.inl g1
        · exact Or.inr ⟨c, g1, by rw [key c g1]; exact g2, g3⟩
      · rintro (g1 | ⟨c, g1, g2, g3⟩)
        · exact Or.inl g1
        · exact Or.inr ⟨c, g1, by rw [key c g1] at g2; exact g2, g3⟩
    rcases Nat.eq_or_lt_of_le h3 with z | z
    · subst z
      rw [pk_us]
      exact tr w hw
    · rw [pk_un (by omega)]
      exact tr _ (h2 j z h4)
theorem x_ana {post : St2 → Prop} (P : dm_Pg kd na nb n) (T : dm_Tr kd n) (h : ∀ se' fn', (∀ j, j < n → se' j = nI (dm_E kd j)) → dm_FN kd na nb n fn' → post (xB, xD, nI n, xo, xc, xl, oc, xu, xa, pk, xr, xw, en, cn, cb, cv, kd, na, nb, se', fn', tg, tn, pF, pS, cT, cB, bo, wN, wF, wB, wV)) : wpX_analyse post (xB, xD, nI n, xo, xc, xl, oc, xu, xa, pk, xr, xw, en, cn, cb, cv, kd, na, nb, se, fn, tg, tn, pF, pS, cT, cB, bo, wN, wF, wB, wV) := by
  refine nm_e ⟨n + 1, ?_⟩
  exact x_ana7 P T n se fn (Nat.le_refl _) (fun j h1 h2 => by omega) (fun j h1 h2 => by omega) h
theorem x_tag7 {post : St2 → Prop} (P : dm_Pg kd na nb n) : ∀ (d k : Nat) (tg tn : Nat → Int32), k + d = n → (∀ i, i < k → (kd i = 13 ∨ kd i = 15) → tg i = nI (dm_cnt kd i) ∧ tn (dm_cnt kd i) = nI i) → (∀ tg' tn', (∀ i, i < n → (kd i = 13 ∨ kd i = 15) → tg' i = nI (dm_cnt kd i) ∧ tn' (dm_cnt kd i) = nI i) → post (xB, xD, nI n, xo, xc, nI (dm_cnt kd n), oc, xu, xa, pk, xr, xw, en, cn, cb, cv, kd, na, nb, se, fn, tg', tn', pF, pS, cT, cB, bo, wN, wF, wB, wV)) →
    wX_giveTags_7 post xB xD (nI n) xo xc oc xu xa pk xr xw en cn cb cv (d + 1) (nI k) (nI (dm_cnt kd k)) kd na nb se fn tg tn pF pS cT cB bo wN wF wB wV := by
  have hn := P.1
  intro d
  induction d with
  | zero =>
    intro k tg tn hk h1 h
    have e : k = n := by omega
    subst e
    exact br_t (nI_le (Nat.le_refl _) (by omega)) (h tg tn h1)
  | succ d ih =>
    intro k tg tn hk h1 h
    have hin : vp_in (nI k) 32 := vp_in_nI (by omega) (by omega)
    have hcl := dm_cnt_le kd k
    refine br_f (nI_ge (by omega) (by omega)) ⟨hin, ?_⟩
    have lam : (kd k = 13 ∨ kd k = 15) → wX_giveTags_37 post (wX_giveTags_7 post xB xD (nI n) xo xc oc xu xa pk xr xw en cn cb cv (d + 1)) (nI k) xB xD (nI n) xo xc (nI (dm_cnt kd k)) oc xu xa pk xr xw en cn cb cv kd na nb se fn tg tn pF pS cT cB bo wN wF wB wV := by
      intro hl
      refine ⟨hin, ?_⟩
      rw [nI_clamp (by omega)]
      refine nm_e ⟨vp_in_nI (by omega) (by omega), ?_⟩
      rw [nI_clamp (by omega)]
      refine nm_e (nm_r (nI_1 _) (nm_r (nI_1 k) ?_))
      rw [← dm_cnt_t hl]
      refine ih (k + 1) _ _ (by omega) (fun i hi hil => ?_) h
      rcases Nat.eq_or_lt_of_le (show i ≤ k by omega) with z | z
      · subst z
        rw [pk_us, pk_us]
        exact ⟨rfl, rfl⟩
      · have := dm_cnt_lt z hil
        rw [pk_un (by omega), pk_un (by omega)]
        exact h1 i z hil
    rw [nI_clamp (by omega)]
    by_cases k13 : kd k = 13
    · exact br_t k13 (lam (Or.inl k13))
    refine br_f k13 ⟨hin, ?_⟩
    by_cases k15 : kd k = 15
    · exact br_t k15 (lam (Or.inr k15))
    refine br_f k15 (nm_r (nI_1 k) ?_)
    have nl : ¬ (kd k = 13 ∨ kd k = 15) := fun z => z.elim k13 k15
    rw [← dm_cnt_f nl]
    refine ih (k + 1) tg tn (by omega) (fun i hi hil => ?_) h
    rcases Nat.eq_or_lt_of_le (show i ≤ k by omega) with z | z
    · subst z
      exact absurd hil nl
    · exact h1 i z hil
theorem x_tag {post : St2 → Prop} (P : dm_Pg kd na nb n) (h : ∀ tg' tn', (∀ i, i < n → (kd i = 13 ∨ kd i = 15) → tg' i = nI (dm_cnt kd i) ∧ tn' (dm_cnt kd i) = nI i) → post (xB, xD, nI n, xo, xc, nI (dm_cnt kd n), oc, xu, xa, pk, xr, xw, en, cn, cb, cv, kd, na, nb, se, fn, tg', tn', pF, pS, cT, cB, bo, wN, wF, wB, wV)) : wpX_giveTags post (xB, xD, nI n, xo, xc, xl, oc, xu, xa, pk, xr, xw, en, cn, cb, cv, kd, na, nb, se, fn, tg, tn, pF, pS, cT, cB, bo, wN, wF, wB, wV) := by
  refine ⟨n + 1, ?_⟩
  exact x_tag7 P n 0 tg tn (by omega) (fun i hi => absurd hi (Nat.not_lt_zero i)) h
end
