/-! the picture of the object -/
def dm_Pg (kd na nb : Nat → Int32) (n : Nat) : Prop := n ≤ 32 ∧ (∀ k, k < n → 1 ≤ dm_O kd k) ∧ ∀ k, k < n → (∃ q, 1 ≤ q ∧ q ≤ 16 ∧ kd k = nI q) ∧ (kd k = 2 ∨ kd k = 13 ∨ kd k = 14 ∨ kd k = 15 → ∃ y, y < 8 ∧ na k = nI y) ∧ (kd k = 15 → ∃ y, y < 8 ∧ nb k = nI y)
def dm_Cp (kd na nb se fn tg tn : Nat → Int32) (n : Nat) : Prop := dm_O kd n = 0 ∧ (∀ i, i < n → se i = nI (dm_E kd i)) ∧ dm_FN kd na nb n fn ∧ fn 0 = 0 ∧ ∀ i, i < n → (kd i = 13 ∨ kd i = 15) → tg i = nI (dm_cnt kd i) ∧ tn (dm_cnt kd i) = nI i
def dm_RC (kd : Nat → Int32) (n : Nat) (m : Nat → Int64) (vK vA vB : Nat → Int32) (pF pS : Nat → Int64) (cT : Nat → Int32) (c : Nat) : Prop :=
  (vK c = 1 ∧ m c = dm_val 1 (vA c)) ∨
  (vK c = 2 ∧ ∃ p a b, p ≤ 64 ∧ a < c ∧ b < c ∧ m c = dm_val 2 (nI p) ∧ vA c = nI a ∧ vB c = nI b ∧ pF p = m a ∧ pS p = m b) ∨
  (vK c = 3 ∧ ∃ p l, p ≤ 64 ∧ l < n ∧ (kd l = 13 ∨ kd l = 15) ∧ m c = dm_val 3 (nI p) ∧ vA c = nI l ∧ cT p = nI (dm_cnt kd l))
def dm_R1 (kd : Nat → Int32) (n : Nat) (xr : Int64) (pF pS : Nat → Int64) (cT : Nat → Int32) : Prop :=
  xr = 0 ∨ ∃ (hp : Nat) (m : Nat → Int64) (vK vA vB : Nat → Int32) (c : Nat), c < hp ∧ xr = m c ∧ ∀ c, c < hp → dm_RC kd n m vK vA vB pF pS cT c
theorem dm_R10 {kd : Nat → Int32} {n : Nat} {pF pS : Nat → Int64} {cT : Nat → Int32} : dm_R1 kd n 0 pF pS cT := Or.inl rfl
def dm_XR (B D : Nat) (u : St2) : Prop := match u with
  | (xB, xD, xn, xo, xc, xl, oc, xu, xa, pk, xr, xw, en, cn, cb, cv, kd, na, nb, se, fn, tg, tn, pF, pS, cT, cB, bo, wN, wF, wB, wV) => ∃ n q t : Nat, xB = nI B ∧ xD = nI D ∧ xn = nI n ∧ xo = nI (dm_O kd n) ∧ pk = nI q ∧ xu = nI t ∧ q ≤ t ∧ t ≤ B ∧ q ≤ D ∧ (oc = 12 → t = B) ∧ (oc = 13 → q = D) ∧ 1 ≤ B ∧ B ≤ 64 ∧ 1 ≤ D ∧ D ≤ 8 ∧ dm_Pg kd na nb n ∧
    ((xc = 0 ∧ xl = 0 ∧ xr = 0) ∨ (xc = 1 ∧ xl = nI (dm_cnt kd n) ∧ dm_Cp kd na nb se fn tg tn n ∧ dm_R1 kd n xr pF pS cT))
section
variable {kd f : Nat → Int32} {n hp ep un j w a p i : Nat} {m : Nat → Int64} {L : Nat → Nat → Nat} {bo : Nat → Int64} {fN fS fE fV wN wF wB : Nat → Int32} {wV : Nat → Int64}
theorem dm_St_T (St : dm_St kd f n hp ep un m L bo fN fS fE fV wN wF wB wV j w a p) (hi : i < n) (h1 : fN j = nI i) (h2 : dm_kT (kd i) (fS j)) (h3 : j ≤ 32 * a + i) : dm_St kd f n hp ep un m L bo fN fS fE fV wN wF wB wV (j + 1) w a (p + 1) := ⟨i, hi, h1, Or.inl ⟨p, h2, h3, rfl, St⟩⟩
theorem dm_St_B (St : dm_St kd f n hp ep un m L bo fN fS fE fV wN wF wB wV j w a p) (hi : i < n) (h1 : fN j = nI i) (h2 : kd i = 16) (h3 : fS j = 3) (h4 : wN w = nI i) (h5 : wF w = 2) (h6 : j ≤ 32 * a + i) : dm_St kd f n hp ep un m L bo fN fS fE fV wN wF wB wV (j + 1) (w + 1) (a + 1) (p + 1) := ⟨i, hi, h1, Or.inr (Or.inl ⟨w, a, p, rfl, rfl, rfl, h2, h3, h4, h5, h6, St⟩)⟩
theorem dm_St_F {e s : Nat} (St : dm_St kd f n hp ep un m L bo fN fS fE fV wN wF wB wV j w a p) (hi : i < n) (h1 : fN j = nI i) (h2 : fS j = 1) (h3 : dm_kF (kd i)) (h4 : wN w = nI i) (h5 : wF w = 0) (h6 : fE j = dm_eI e) (h7 : wB w = nI s) (h8 : e ≤ ep) (h9 : s ≤ un) (h10 : dm_EO hp m (L e) (fun x => bo (s * 8 + x)) (fun x => bt (f i) x = true)) (h11 : j ≤ 32 * a + i) : dm_St kd f n hp ep un m L bo fN fS fE fV wN wF wB wV (j + 1) (w + 1) a (p + 7 + 8 * (dm_E kd i - dm_E kd (i + 1))) := ⟨i, hi, h1, Or.inr (Or.inr (Or.inl ⟨w, p, e, s, rfl, rfl, h2, h3, h4, h5, h6, h7, h8, h9, h10, h11, St⟩))⟩
theorem dm_St_S {c : Nat} (St : dm_St kd f n hp ep un m L bo fN fS fE fV wN wF wB wV j w a p) (hi : i < n) (h1 : fN j = nI i) (h2 : fS j = 2) (h3 : dm_kS (kd i)) (h4 : wN w = nI i) (h5 : wF w = 1) (h6 : c < hp) (h7 : fV j = nI c) (h8 : wV w = m c) (h9 : j ≤ 32 * a + i) : dm_St kd f n hp ep un m L bo fN fS fE fV wN wF wB wV (j + 1) (w + 1) a (p + 6) := ⟨i, hi, h1, Or.inr (Or.inr (Or.inr ⟨w, p, c, rfl, rfl, h2, h3, h4, h5, h6, h7, h8, h9, St⟩))⟩
end
def dm_pk (a : Nat) (pk : Int32) : Int32 := if nI (a + 1) ≤ pk then pk else nI (a + 1)
theorem dm_pkN {a q un D : Nat} (h1 : a ≤ q) (h2 : q ≤ un) (h3 : q ≤ D) (h4 : a < D) (h5 : D ≤ 8) : ∃ q2, dm_pk a (nI q) = nI q2 ∧ q ≤ q2 ∧ a + 1 ≤ q2 ∧ q2 ≤ un + 1 ∧ q2 ≤ D := by
  unfold dm_pk
  by_cases e : a + 1 ≤ q
  · exact ⟨q, if_pos (nI_le e (by omega)), by omega, by omega, by omega, by omega⟩
  · exact ⟨a + 1, if_neg (nI_ge (by omega) (by omega)), by omega, by omega, by omega, by omega⟩
