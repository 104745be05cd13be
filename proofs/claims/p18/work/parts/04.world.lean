/-! the world of a run: Y's heap cell c stands for X's value m c; Y's environment e (0: none, j + 1: entry j) finds the cell L e x - 1 for the name x -/
def dm_eI (e : Nat) : Int32 := nI e - 1
theorem dm_eI0 : dm_eI 0 = -1 := by decide
theorem dm_eIs (j : Nat) : dm_eI (j + 1) = nI j := nI_pred j
def dm_EO (hp : Nat) (m : Nat → Int64) (Le : Nat → Nat) (bs : Nat → Int64) (W : Nat → Prop) : Prop := ∀ x, x < 8 → W x → ∃ c, c < hp ∧ Le x = c + 1 ∧ bs x = m c
section
variable {hp hp' c0 y : Nat} {m m' bs bs' : Nat → Int64} {Le Le' : Nat → Nat} {W W' : Nat → Prop}
theorem dm_EO_w (h : dm_EO hp m Le bs W) (hw : ∀ x, x < 8 → W' x → W x) : dm_EO hp m Le bs W' := fun x hx w => h x hx (hw x hx w)
theorem dm_EO_x (h : dm_EO hp m Le bs W) (h1 : hp ≤ hp') (h2 : ∀ c, c < hp → m' c = m c) (h3 : ∀ x, x < 8 → Le' x = Le x) (h4 : ∀ x, x < 8 → bs' x = bs x) : dm_EO hp' m' Le' bs' W := by
  intro x hx w
  obtain ⟨c, c1, c2, c3⟩ := h x hx w
  exact ⟨c, by omega, by rw [h3 x hx, c2], by rw [h4 x hx, c3, h2 c c1]⟩
theorem dm_EO_b (h : dm_EO hp m Le bs (fun x => W x ∧ x ≠ y)) (hc : c0 < hp) (h3 : ∀ x, x < 8 → Le' x = if x = y then c0 + 1 else Le x) (h4 : ∀ x, x < 8 → bs' x = if x = y then m c0 else bs x) : dm_EO hp m Le' bs' W := by
  intro x hx w
  by_cases e : x = y
  · exact ⟨c0, hc, by rw [h3 x hx, if_pos e], by rw [h4 x hx, if_pos e]⟩
  · obtain ⟨c, c1, c2, c3⟩ := h x hx ⟨w, e⟩
    exact ⟨c, c1, by rw [h3 x hx, if_neg e, c2], by rw [h4 x hx, if_neg e, c3]⟩
end
/-- what is free in the lambda l -/
def dm_LW (kd na nb f : Nat → Int32) (l x : Nat) : Prop := bt (f (l + 1)) x = true ∧ ¬ dm_bd kd na nb l 0 (nI x)
/-- the cell c of Y's heap -/
def dm_HC (kd na nb f : Nat → Int32) (n hp ep un : Nat) (m : Nat → Int64) (L : Nat → Nat → Nat) (bo : Nat → Int64) (vK vA vB : Nat → Int32) (pF pS : Nat → Int64) (cT cB : Nat → Int32) (c : Nat) : Prop :=
  (vK c = 1 ∧ m c = dm_val 1 (vA c)) ∨
  (vK c = 2 ∧ ∃ p a b, 1 ≤ p ∧ p ≤ un ∧ a < c ∧ b < c ∧ m c = dm_val 2 (nI p) ∧ vA c = nI a ∧ vB c = nI b ∧ pF p = m a ∧ pS p = m b) ∨
  (vK c = 3 ∧ ∃ p l e s, 1 ≤ p ∧ p ≤ un ∧ l < n ∧ (kd l = 13 ∨ kd l = 15) ∧ e ≤ ep ∧ s ≤ un ∧ m c = dm_val 3 (nI p) ∧ vA c = nI l ∧ vB c = dm_eI e ∧ cT p = nI (dm_cnt kd l) ∧ cB p = nI s ∧ dm_EO hp m (L e) (fun x => bo (s * 8 + x)) (dm_LW kd na nb f l))
section
variable {kd na nb f : Nat → Int32} {n hp ep un hp' ep' un' : Nat} {m m' bo bo' : Nat → Int64} {L L' : Nat → Nat → Nat} {vK vA vB vK' vA' vB' : Nat → Int32} {pF pS pF' pS' : Nat → Int64} {cT cB cT' cB' : Nat → Int32}
/-- what an extension keeps -/
def dm_Ex (hp ep un hp' ep' un' : Nat) (m m' bo bo' : Nat → Int64) (L L' : Nat → Nat → Nat) : Prop := hp ≤ hp' ∧ ep ≤ ep' ∧ un ≤ un' ∧ (∀ c, c < hp → m' c = m c) ∧ (∀ k, k < (un + 1) * 8 → bo' k = bo k) ∧ (∀ e, e ≤ ep → ∀ x, x < 8 → L' e x = L e x)
theorem dm_Ex_r : dm_Ex hp ep un hp ep un m m bo bo L L := ⟨Nat.le_refl _, Nat.le_refl _, Nat.le_refl _, fun _ _ => rfl, fun _ _ => rfl, fun _ _ _ _ => rfl⟩
theorem dm_EO_e {e s : Nat} {W : Nat → Prop} (X : dm_Ex hp ep un hp' ep' un' m m' bo bo' L L') (he : e ≤ ep) (hs : s ≤ un) (h : dm_EO hp m (L e) (fun x => bo (s * 8 + x)) W) : dm_EO hp' m' (L' e) (fun x => bo' (s * 8 + x)) W :=
  dm_EO_x h X.1 X.2.2.2.1 (fun x hx => X.2.2.2.2.2 e he x hx) (fun x hx => X.2.2.2.2.1 _ (by omega))
theorem dm_HC_x {c : Nat} (X : dm_Ex hp ep un hp' ep' un' m m' bo bo' L L') (hc : c < hp) (e1 : vK' c = vK c) (e2 : vA' c = vA c) (e3 : vB' c = vB c) (e4 : ∀ p, p ≤ un → pF' p = pF p) (e5 : ∀ p, p ≤ un → pS' p = pS p) (e6 : ∀ p, p ≤ un → cT' p = cT p) (e7 : ∀ p, p ≤ un → cB' p = cB p)
    (h : dm_HC kd na nb f n hp ep un m L bo vK vA vB pF pS cT cB c) : dm_HC kd na nb f n hp' ep' un' m' L' bo' vK' vA' vB' pF' pS' cT' cB' c := by
  obtain ⟨x1, x2, x3, x4, x5, x6⟩ := id X
  rcases h with ⟨h1, h2⟩ | ⟨h1, p, a, b, h2, h3, h4, h5, h6, h7, h8, h9, h10⟩ | ⟨h1, p, l, e, s, h2, h3, h4, h5, h6, h7, h8, h9, h10, h11, h12, h13⟩
  · exact Or.inl ⟨by rw [e1, h1], by rw [x4 c hc, e2, h2]⟩
  · exact Or.inr (Or.inl ⟨by rw [e1, h1], p, a, b, h2, by omega, h4, h5, by rw [x4 c hc, h6], by rw [e2, h7], by rw [e3, h8], by rw [e4 p h3, h9, x4 a (by omega)], by rw [e5 p h3, h10, x4 b (by omega)]⟩)
  · exact Or.inr (Or.inr ⟨by rw [e1, h1], p, l, e, s, h2, by omega, h4, h5, by omega, by omega, by rw [x4 c hc, h8], by rw [e2, h9], by rw [e3, h10], by rw [e6 p h3, h11], by rw [e7 p h3, h12], dm_EO_e X h6 h7 h13⟩)
end
/-- Y's table of bindings -/
def dm_LK (L : Nat → Nat → Nat) (hp ep : Nat) (eN eV eX : Nat → Int32) : Prop := (∀ x, L 0 x = 0) ∧ ∀ j, j < ep → ∃ y q c, y < 8 ∧ q ≤ j ∧ c < hp ∧ eN j = nI y ∧ eV j = nI c ∧ eX j = dm_eI q ∧ ∀ x, x < 8 → L (j + 1) x = if x = y then c + 1 else L q x
section
variable {hp hp' ep : Nat} {L : Nat → Nat → Nat} {eN eV eX : Nat → Int32}
theorem dm_LK_h (h : dm_LK L hp ep eN eV eX) (h1 : hp ≤ hp') : dm_LK L hp' ep eN eV eX := by
  refine ⟨h.1, fun j hj => ?_⟩
  obtain ⟨y, q, c, g1, g2, g3, g4⟩ := h.2 j hj
  exact ⟨y, q, c, g1, g2, by omega, g4⟩
/-- one more binding of y to the cell c, before the environment q -/
def dm_Ls (L : Nat → Nat → Nat) (ep y c q : Nat) : Nat → Nat → Nat := fun e x => if e = ep + 1 then (if x = y then c + 1 else L q x) else L e x
theorem dm_Ls_o {y c q e x : Nat} (h : e ≤ ep) : dm_Ls L ep y c q e x = L e x := if_neg (by omega)
theorem dm_Ls_n {y c q x : Nat} : dm_Ls L ep y c q (ep + 1) x = if x = y then c + 1 else L q x := if_pos rfl
theorem dm_LK_b {y c q : Nat} (h : dm_LK L hp ep eN eV eX) (hy : y < 8) (hc : c < hp) (hq : q ≤ ep) : dm_LK (dm_Ls L ep y c q) hp (ep + 1) (upd eN ep (nI y)) (upd eV ep (nI c)) (upd eX ep (dm_eI q)) := by
  refine ⟨fun x => ?_, fun j hj => ?_⟩
  · rw [dm_Ls_o (by omega)]
    exact h.1 x
  · rcases Nat.eq_or_lt_of_le (show j ≤ ep by omega) with z | z
    · subst z
      exact ⟨y, q, c, hy, hq, hc, pk_us, pk_us, pk_us, fun x _ => by rw [dm_Ls_n, dm_Ls_o hq]⟩
    · obtain ⟨y', q', c', g1, g2, g3, g4, g5, g6, g7⟩ := h.2 j z
      refine ⟨y', q', c', g1, g2, g3, ?_, ?_, ?_, fun x hx => ?_⟩
      · rw [pk_un (by omega), g4]
      · rw [pk_un (by omega), g5]
      · rw [pk_un (by omega), g6]
      · rw [dm_Ls_o (by omega), dm_Ls_o (by omega), g7 x hx]
end
/-! the two stacks -/
def dm_kF (k : Int32) : Prop := k = 3 ∨ k = 4 ∨ k = 5 ∨ k = 6 ∨ k = 7 ∨ k = 8 ∨ k = 9 ∨ k = 10 ∨ k = 11 ∨ k = 12 ∨ k = 14 ∨ k = 16
def dm_kS (k : Int32) : Prop := k = 3 ∨ k = 4 ∨ k = 5 ∨ k = 6 ∨ k = 7 ∨ k = 8 ∨ k = 10 ∨ k = 16
def dm_kT (k s : Int32) : Prop := (k = 9 ∧ s = 2) ∨ (k = 14 ∧ s = 2) ∨ (k = 15 ∧ s = 1)
section
variable (kd f : Nat → Int32) (n hp ep un : Nat) (m : Nat → Int64) (L : Nat → Nat → Nat) (bo : Nat → Int64) (fN fS fE fV wN wF wB : Nat → Int32) (wV : Nat → Int64)
/-- Y's j frames against X's w waiting nodes, a of them for a body; p: what their work may still cost -/
def dm_St : Nat → Nat → Nat → Nat → Prop
  | 0 => fun w a p => w = 0 ∧ a = 0 ∧ p = 0
  | j + 1 => fun w a p => ∃ i, i < n ∧ fN j = nI i ∧
    ((∃ p', dm_kT (kd i) (fS j) ∧ j ≤ 32 * a + i ∧ p = p' + 1 ∧ dm_St j w a p') ∨
     (∃ w' a' p', w = w' + 1 ∧ a = a' + 1 ∧ p = p' + 1 ∧ kd i = 16 ∧ fS j = 3 ∧ wN w' = nI i ∧ wF w' = 2 ∧ j ≤ 32 * a' + i ∧ dm_St j w' a' p') ∨
     (∃ w' p' e s, w = w' + 1 ∧ p = p' + 7 + 8 * (dm_E kd i - dm_E kd (i + 1)) ∧ fS j = 1 ∧ dm_kF (kd i) ∧ wN w' = nI i ∧ wF w' = 0 ∧ fE j = dm_eI e ∧ wB w' = nI s ∧ e ≤ ep ∧ s ≤ un ∧ dm_EO hp m (L e) (fun x => bo (s * 8 + x)) (fun x => bt (f i) x = true) ∧ j ≤ 32 * a + i ∧ dm_St j w' a p') ∨
     (∃ w' p' c, w = w' + 1 ∧ p = p' + 6 ∧ fS j = 2 ∧ dm_kS (kd i) ∧ wN w' = nI i ∧ wF w' = 1 ∧ c < hp ∧ fV j = nI c ∧ wV w' = m c ∧ j ≤ 32 * a + i ∧ dm_St j w' a p'))
end
section
variable {kd f : Nat → Int32} {n hp ep un hp' ep' un' : Nat} {m m' : Nat → Int64} {L L' : Nat → Nat → Nat} {bo bo' : Nat → Int64} {fN fS fE fV wN wF wB fN' fS' fE' fV' wN' wF' wB' : Nat → Int32} {wV wV' : Nat → Int64}
theorem dm_St_x (X : dm_Ex hp ep un hp' ep' un' m m' bo bo' L L') : ∀ j w a p, (∀ i, i < j → fN' i = fN i ∧ fS' i = fS i ∧ fE' i = fE i ∧ fV' i = fV i) → (∀ i, i < w → wN' i = wN i ∧ wF' i = wF i ∧ wB' i = wB i ∧ wV' i = wV i) →
    dm_St kd f n hp ep un m L bo fN fS fE fV wN wF wB wV j w a p → dm_St kd f n hp' ep' un' m' L' bo' fN' fS' fE' fV' wN' wF' wB' wV' j w a p := by
  intro j
  induction j with
  | zero => intro w a p _ _ h; exact h
  | succ j ih =>
    intro w a p hY hX h
    obtain ⟨x1, x2, x3, x4, x5, x6⟩ := id X
    obtain ⟨y1, y2, y3, y4⟩ := hY j (by omega)
    have hY' : ∀ i, i < j → fN' i = fN i ∧ fS' i = fS i ∧ fE' i = fE i ∧ fV' i = fV i := fun i hi => hY i (by omega)
    obtain ⟨i, hi, h0, h⟩ := h
    refine ⟨i, hi, by rw [y1, h0], ?_⟩
    rcases h with ⟨p', h1, h2, h3, h4⟩ | ⟨w', a', p', h1, h2, h3, h4, h5, h6, h7, h8, h9⟩ | ⟨w', p', e, s, h1, h2, h3, h4, h5, h6, h7, h8, h9, h10, h11, h12, h13⟩ | ⟨w', p', c, h1, h2, h3, h4, h5, h6, h7, h8, h9, h10, h11⟩
    · exact Or.inl ⟨p', by rw [y2]; exact h1, h2, h3, ih w a p' hY' hX h4⟩
    · obtain ⟨z1, z2, z3, z4⟩ := hX w' (by omega)
      exact Or.inr (Or.inl ⟨w', a', p', h1, h2, h3, h4, by rw [y2, h5], by rw [z1, h6], by rw [z2, h7], h8, ih w' a' p' hY' (fun i hi => hX i (by omega)) h9⟩)
    · obtain ⟨z1, z2, z3, z4⟩ := hX w' (by omega)
      exact Or.inr (Or.inr (Or.inl ⟨w', p', e, s, h1, h2, by rw [y2, h3], h4, by rw [z1, h5], by rw [z2, h6], by rw [y3, h7], by rw [z3, h8], by omega, by omega, dm_EO_e X h9 h10 h11, h12, ih w' a p' hY' (fun i hi => hX i (by omega)) h13⟩))
    · obtain ⟨z1, z2, z3, z4⟩ := hX w' (by omega)
      exact Or.inr (Or.inr (Or.inr ⟨w', p', c, h1, h2, by rw [y2, h3], h4, by rw [z1, h5], by rw [z2, h6], by omega, by rw [y4, h8], by rw [z4, h9, x4 c h7], h10, ih w' a p' hY' (fun i hi => hX i (by omega)) h11⟩))
theorem dm_St_le : ∀ j w a p, dm_St kd f n hp ep un m L bo fN fS fE fV wN wF wB wV j w a p → w ≤ j := by
  intro j
  induction j with
  | zero => intro w a p h; exact Nat.le_of_eq h.1
  | succ j ih =>
    intro w a p h
    obtain ⟨i, hi, h0, h⟩ := h
    rcases h with ⟨p', h1, h2, h3, h4⟩ | ⟨w', a', p', h1, h2, h3, h4, h5, h6, h7, h8, h9⟩ | ⟨w', p', e, s, h1, h2, h3, h4, h5, h6, h7, h8, h9, h10, h11, h12, h13⟩ | ⟨w', p', c, h1, h2, h3, h4, h5, h6, h7, h8, h9, h10, h11⟩
    · have := ih _ _ _ h4
      omega
    · have := ih _ _ _ h9
      omega
    · have := ih _ _ _ h13
      omega
    · have := ih _ _ _ h11
      omega
end
