/-! the relation -/
def dm_Pg (kd na nb : Nat → Int32) (n : Nat) : Prop := n ≤ 32 ∧ (∀ k, k < n → 1 ≤ dm_O kd k) ∧ ∀ k, k < n → (∃ q, 1 ≤ q ∧ q ≤ 16 ∧ kd k = nI q) ∧ (kd k = 2 ∨ kd k = 13 ∨ kd k = 14 ∨ kd k = 15 → ∃ y, y < 8 ∧ na k = nI y) ∧ (kd k = 15 → ∃ y, y < 8 ∧ nb k = nI y)
def dm_Cp (kd na nb se fn tg tn : Nat → Int32) (n : Nat) : Prop := dm_O kd n = 0 ∧ (∀ i, i < n → se i = nI (dm_E kd i)) ∧ dm_FN kd na nb n fn ∧ fn 0 = 0 ∧ ∀ i, i < n → (kd i = 13 ∨ kd i = 15) → tg i = nI (dm_cnt kd i) ∧ tn (dm_cnt kd i) = nI i
def dm_RC (kd : Nat → Int32) (n : Nat) (m : Nat → Int64) (vK vA vB : Nat → Int32) (pF pS : Nat → Int64) (cT : Nat → Int32) (c : Nat) : Prop :=
  (vK c = 1 ∧ m c = dm_val 1 (vA c)) ∨
  (vK c = 2 ∧ ∃ p a b, p ≤ 64 ∧ a < c ∧ b < c ∧ m c = dm_val 2 (nI p) ∧ vA c = nI a ∧ vB c = nI b ∧ pF p = m a ∧ pS p = m b) ∨
  (vK c = 3 ∧ ∃ p l, p ≤ 64 ∧ l < n ∧ m c = dm_val 3 (nI p) ∧ vA c = nI l ∧ cT p = nI (dm_cnt kd l))
def dm_RR (kd : Nat → Int32) (n : Nat) (xr : Int64) (yr : Int32) (vK vA vB : Nat → Int32) (pF pS : Nat → Int64) (cT : Nat → Int32) : Prop :=
  (xr = 0 ∧ yr = -1) ∨ ∃ (hp : Nat) (m : Nat → Int64) (c : Nat), hp ≤ 4096 ∧ c < hp ∧ xr = m c ∧ yr = nI c ∧ ∀ c, c < hp → dm_RC kd n m vK vA vB pF pS cT c
def i_Rel (k : Nat) (u : SX) (v : SY) : Prop := match u, v with
  | (xB, xD, xn, xo, xc, xl, oc, xu, xa, pk, xr, xw, en, cn, cb, cv, kd, na, nb, se, fn, tg, tn, pF, pS, cT, cB, bo, wN, wF, wB, wV), (yB, yD, yn, yc, yo, yu, ya, yp, yr, yh, ye, ys, er, rt, yk, ym, yb, vK, vA, vB, eN, eV, eX, fN, fS, fE, fV) => ∃ B D n : Nat, xB = nI B ∧ yB = nI B ∧ xD = nI D ∧ yD = nI D ∧ xn = nI n ∧ yn = nI n ∧ xo = nI (dm_O kd n) ∧ yc = xc ∧ yo = oc ∧ yu = xu ∧ yp = pk ∧ yk = kd ∧ ym = na ∧ yb = nb ∧ 1 ≤ B ∧ B ≤ 64 ∧ 1 ≤ D ∧ D ≤ 8 ∧ dm_Pg kd na nb n ∧
    ((xc = 0 ∧ xl = 0 ∧ xr = 0 ∧ yr = -1) ∨ (xc = 1 ∧ xl = nI (dm_cnt kd n) ∧ dm_Cp kd na nb se fn tg tn n ∧ dm_RR kd n xr yr vK vA vB pF pS cT))
theorem i_up {k : Nat} {u : SX} {v : SY} (h : i_Rel k u v) : i_Rel (k + 4) u v := h
