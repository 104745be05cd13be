/-! construction, reset, node and the calls that only tell -/
theorem dm_clx (p : Int32) (M : Nat) (hM : 1 ≤ M) (hM2 : M < 1000) : ∃ j, 1 ≤ j ∧ j ≤ M ∧ ∀ A : Int32 → Prop, A (nI j) → ((1 ≤ p → ((p ≤ nI M → A p) ∧ (¬ p ≤ nI M → A (nI M)))) ∧ (¬ 1 ≤ p → A 1)) := by
  by_cases h : 1 ≤ p
  · by_cases h2 : p ≤ nI M
    · have h0 : ¬ p < 0 := Int32.not_lt.mpr (Int32.le_trans (by decide) h)
      obtain ⟨j, hj, rfl⟩ := nI_of h0
      exact ⟨j, (nI_leI (a := 1) (by omega) hj).mp h, (nI_leI hj (by omega)).mp h2, fun A a => br_t h (br_t h2 a)⟩
    · exact ⟨M, hM, Nat.le_refl _, fun A a => br_t h (br_f h2 a)⟩
  · exact ⟨1, Nat.le_refl _, hM, fun A a => br_f h a⟩
theorem dm_Pg0 (kd na nb : Nat → Int32) : dm_Pg kd na nb 0 := ⟨by omega, fun k h => absurd h (Nat.not_lt_zero k), fun k h => absurd h (Nat.not_lt_zero k)⟩
theorem i_vc0 (k0 : Int32) (k1 : Int32) : wpX_init (fun u => wpY_init (fun v => i_Rel 2 u v) k0 k1) k0 k1 := by
  obtain ⟨B, b1, b2, hB⟩ := dm_clx k0 64 (by omega) (by omega)
  obtain ⟨D, d1, d2, hD⟩ := dm_clx k1 8 (by omega) (by omega)
  have xB : ∀ post : Int32 → Prop, post (nI B) → wpX_clamp post k0 64 := fun post h => hB post h
  have xD : ∀ post : Int32 → Prop, post (nI D) → wpX_clamp post k1 8 := fun post h => hD post h
  unfold wpX_init
  refine xB _ (xD _ ?_)
  unfold wpX_reset
  dsimp only
  unfold wpY_init
  refine hB (fun z => wY_init_151 _ k1 z 0 0 0 0 14 0 0 0 (-1) 0 0 0 0 0 (fun _ => 0) (fun _ => 0) (fun _ => 0) (fun _ => 0) (fun _ => 0) (fun _ => 0) (fun _ => 0) (fun _ => 0) (fun _ => 0) (fun _ => 0) (fun _ => 0) (fun _ => 0) (fun _ => 0)) ?_
  unfold wY_init_151
  refine hD (fun z => i_Rel 2 _ (nI B, z, _)) ?_
  exact ⟨B, D, 0, rfl, rfl, rfl, rfl, rfl, rfl, rfl, rfl, rfl, rfl, rfl, rfl, rfl, rfl, b1, b2, d1, d2, dm_Pg0 _ _ _, Or.inl ⟨rfl, rfl, rfl, rfl⟩⟩
section
variable {k : Nat} {u : SX} {v : SY}
theorem i_vc_reset {k : Nat} {u : SX} {v : SY} (I : i_Rel k u v) (hk : k + 4 ≤ 2050) : wpX_reset (fun u' => wpY_reset (fun v' => i_Rel (k + 4) u' v') v) u := by
  obtain ⟨xB, xD, xn, xo, xc, xl, oc, xu, xa, pk, xr, xw, en, cn, cb, cv, kd, na, nb, se, fn, tg, tn, pF, pS, cT, cB, bo, wN, wF, wB, wV⟩ := u
  obtain ⟨yB, yD, yn, yc, yo, yu, ya, yp, yr, yh, ye, ys, er, rt, yk, ym, yb, vK, vA, vB, eN, eV, eX, fN, fS, fE, fV⟩ := v
  obtain ⟨B, D, n, rfl, rfl, rfl, rfl, rfl, rfl, rfl, rfl, rfl, rfl, rfl, rfl, rfl, rfl, b1, b2, d1, d2, P, R⟩ := I
  exact ⟨B, D, 0, rfl, rfl, rfl, rfl, rfl, rfl, rfl, rfl, rfl, rfl, rfl, rfl, rfl, rfl, b1, b2, d1, d2, dm_Pg0 _ _ _, Or.inl ⟨rfl, rfl, rfl, rfl⟩⟩
theorem i_vc_nodeCount {k : Nat} {u : SX} {v : SY} (I : i_Rel k u v) (hk : k + 4 ≤ 2050) : wpX_nodeCount (fun r => wpY_nodeCount (fun r' => r' = r ∧ i_Rel (k + 4) u v) v) u := by
  have J := I
  obtain ⟨xB, xD, xn, xo, xc, xl, oc, xu, xa, pk, xr, xw, en, cn, cb, cv, kd, na, nb, se, fn, tg, tn, pF, pS, cT, cB, bo, wN, wF, wB, wV⟩ := u
  obtain ⟨yB, yD, yn, yc, yo, yu, ya, yp, yr, yh, ye, ys, er, rt, yk, ym, yb, vK, vA, vB, eN, eV, eX, fN, fS, fE, fV⟩ := v
  obtain ⟨B, D, n, rfl, rfl, rfl, rfl, rfl, rfl, rfl, rfl, rfl, rfl, rfl, rfl, rfl, rfl, b1, b2, d1, d2, P, R⟩ := I
  exact ⟨rfl, J⟩
theorem i_vc_lastOutcome {k : Nat} {u : SX} {v : SY} (I : i_Rel k u v) (hk : k + 4 ≤ 2050) : wpX_lastOutcome (fun r => wpY_lastOutcome (fun r' => r' = r ∧ i_Rel (k + 4) u v) v) u := by
  have J := I
  obtain ⟨xB, xD, xn, xo, xc, xl, oc, xu, xa, pk, xr, xw, en, cn, cb, cv, kd, na, nb, se, fn, tg, tn, pF, pS, cT, cB, bo, wN, wF, wB, wV⟩ := u
  obtain ⟨yB, yD, yn, yc, yo, yu, ya, yp, yr, yh, ye, ys, er, rt, yk, ym, yb, vK, vA, vB, eN, eV, eX, fN, fS, fE, fV⟩ := v
  obtain ⟨B, D, n, rfl, rfl, rfl, rfl, rfl, rfl, rfl, rfl, rfl, rfl, rfl, rfl, rfl, rfl, b1, b2, d1, d2, P, R⟩ := I
  exact ⟨rfl, J⟩
theorem i_vc_unitsUsed {k : Nat} {u : SX} {v : SY} (I : i_Rel k u v) (hk : k + 4 ≤ 2050) : wpX_unitsUsed (fun r => wpY_unitsUsed (fun r' => r' = r ∧ i_Rel (k + 4) u v) v) u := by
  have J := I
  obtain ⟨xB, xD, xn, xo, xc, xl, oc, xu, xa, pk, xr, xw, en, cn, cb, cv, kd, na, nb, se, fn, tg, tn, pF, pS, cT, cB, bo, wN, wF, wB, wV⟩ := u
  obtain ⟨yB, yD, yn, yc, yo, yu, ya, yp, yr, yh, ye, ys, er, rt, yk, ym, yb, vK, vA, vB, eN, eV, eX, fN, fS, fE, fV⟩ := v
  obtain ⟨B, D, n, rfl, rfl, rfl, rfl, rfl, rfl, rfl, rfl, rfl, rfl, rfl, rfl, rfl, rfl, b1, b2, d1, d2, P, R⟩ := I
  exact ⟨rfl, J⟩
theorem i_vc_peakDepth {k : Nat} {u : SX} {v : SY} (I : i_Rel k u v) (hk : k + 4 ≤ 2050) : wpX_peakDepth (fun r => wpY_peakDepth (fun r' => r' = r ∧ i_Rel (k + 4) u v) v) u := by
  have J := I
  obtain ⟨xB, xD, xn, xo, xc, xl, oc, xu, xa, pk, xr, xw, en, cn, cb, cv, kd, na, nb, se, fn, tg, tn, pF, pS, cT, cB, bo, wN, wF, wB, wV⟩ := u
  obtain ⟨yB, yD, yn, yc, yo, yu, ya, yp, yr, yh, ye, ys, er, rt, yk, ym, yb, vK, vA, vB, eN, eV, eX, fN, fS, fE, fV⟩ := v
  obtain ⟨B, D, n, rfl, rfl, rfl, rfl, rfl, rfl, rfl, rfl, rfl, rfl, rfl, rfl, rfl, rfl, b1, b2, d1, d2, P, R⟩ := I
  exact ⟨rfl, J⟩
theorem dm_b0 : narrow .boolean (.int (0 : Int32)) = .int 0 := by decide
theorem dm_b1 : narrow .boolean (.int (1 : Int32)) = .int 1 := by decide
theorem i_vc_isCompiled {k : Nat} {u : SX} {v : SY} (I : i_Rel k u v) (hk : k + 4 ≤ 2050) : wpX_isCompiled (fun r => wpY_isCompiled (fun r' => r' = r ∧ i_Rel (k + 4) u v) v) u := by
  have J := I
  obtain ⟨xB, xD, xn, xo, xc, xl, oc, xu, xa, pk, xr, xw, en, cn, cb, cv, kd, na, nb, se, fn, tg, tn, pF, pS, cT, cB, bo, wN, wF, wB, wV⟩ := u
  obtain ⟨yB, yD, yn, yc, yo, yu, ya, yp, yr, yh, ye, ys, er, rt, yk, ym, yb, vK, vA, vB, eN, eV, eX, fN, fS, fE, fV⟩ := v
  obtain ⟨B, D, n, rfl, rfl, rfl, rfl, rfl, rfl, rfl, rfl, rfl, rfl, rfl, rfl, rfl, rfl, b1, b2, d1, d2, P, R⟩ := I
  have hb : narrow .boolean (.int yc) = .int yc := by
    rcases R with ⟨h, _⟩ | ⟨h, _⟩
    · rw [h]
      exact dm_b0
    · rw [h]
      exact dm_b1
  exact ⟨hb, hb, rfl, J⟩
theorem i_vc_isComplete {k : Nat} {u : SX} {v : SY} (I : i_Rel k u v) (hk : k + 4 ≤ 2050) : wpX_isComplete (fun r => wpY_isComplete (fun r' => r' = r ∧ i_Rel (k + 4) u v) v) u := by
  have J := I
  obtain ⟨xB, xD, xn, xo, xc, xl, oc, xu, xa, pk, xr, xw, en, cn, cb, cv, kd, na, nb, se, fn, tg, tn, pF, pS, cT, cB, bo, wN, wF, wB, wV⟩ := u
  obtain ⟨yB, yD, yn, yc, yo, yu, ya, yp, yr, yh, ye, ys, er, rt, yk, ym, yb, vK, vA, vB, eN, eV, eX, fN, fS, fE, fV⟩ := v
  obtain ⟨B, D, n, rfl, rfl, rfl, rfl, rfl, rfl, rfl, rfl, rfl, rfl, rfl, rfl, rfl, rfl, b1, b2, d1, d2, P, R⟩ := I
  have hb := dm_O_b yk n
  have hn := P.1
  by_cases e : dm_O yk n = 0
  · exact br_t (by rw [e]; rfl) (y_isC P (fun _ => ⟨rfl, J⟩) (fun h => absurd e h))
  · exact br_f (nI_ne0 (by omega) (by omega)) (y_isC P (fun h => absurd h e) (fun _ => ⟨rfl, J⟩))
end
/-! node -/
def dm_nm (x : Int32) : Prop := ¬ x < 0 ∧ ¬ 8 ≤ x
def dm_bad (k a b : Int32) : Prop := ((k = 2 ∨ k = 13 ∨ k = 14 ∨ k = 15) ∧ ¬ dm_nm a) ∨ (k = 15 ∧ ¬ dm_nm b)
theorem dm_nm_N {x : Int32} (h : dm_nm x) : ∃ y, y < 8 ∧ x = nI y := by
  obtain ⟨j, hj, rfl⟩ := nI_of h.1
  refine ⟨j, Nat.lt_of_not_le (fun z => h.2 (nI_le (a := 8) z hj)), rfl⟩
theorem dm_nm7 {x : Int32} (h : ¬ x < 0) : x ≤ 7 ↔ ¬ 8 ≤ x := by
  obtain ⟨j, hj, rfl⟩ := nI_of h
  have a1 : nI j ≤ 7 ↔ j ≤ 7 := nI_leI (b := 7) hj (by omega)
  have a2 : 8 ≤ nI j ↔ 8 ≤ j := nI_leI (a := 8) (by omega) hj
  rw [a1, a2]
  omega
theorem x_isN {post : Int32 → Prop} {x : Int32} (h1 : dm_nm x → post 1) (h0 : ¬ dm_nm x → post 0) : wpX_isName post x := by
  by_cases a : x < 0
  · exact br_t a (h0 (fun z => z.1 a))
  · by_cases b : 8 ≤ x
    · exact br_f a (br_t b (h0 (fun z => z.2 b)))
    · exact br_f a (br_f b (h1 ⟨a, b⟩))
theorem x_bad {post : Int32 → Prop} {k a b : Int32} (h1 : dm_bad k a b → post 1) (h0 : ¬ dm_bad k a b → post 0) : wpX_hasBadName post k a b := by
  have one : (k = 2 ∨ k = 13 ∨ k = 14) → wX_hasBadName_44 post a := by
    intro hk
    refine x_isN (fun z => br_f (by decide) (h0 ?_)) (fun z => br_t rfl (h1 (Or.inl ⟨?_, z⟩)))
    · rintro (⟨_, g⟩ | ⟨g, _⟩)
      · exact g z
      · subst g
        rcases hk with hk | hk | hk <;> exact absurd hk (by decide)
    · rcases hk with hk | hk | hk
      · exact Or.inl hk
      · exact Or.inr (Or.inl hk)
      · exact Or.inr (Or.inr (Or.inl hk))
  by_cases c2 : k = 2
  · exact br_t c2 (one (Or.inl c2))
  refine br_f c2 ?_
  by_cases c13 : k = 13
  · exact br_t c13 (one (Or.inr (Or.inl c13)))
  refine br_f c13 ?_
  by_cases c14 : k = 14
  · exact br_t c14 (one (Or.inr (Or.inr c14)))
  refine br_f c14 ?_
  by_cases c15 : k = 15
  · refine br_t c15 (x_isN (fun z => br_f (by decide) (x_isN (fun w => br_f (by decide) (h0 ?_)) (fun w => br_t rfl (h1 (Or.inr ⟨c15, w⟩))))) (fun z => br_t rfl (h1 (Or.inl ⟨Or.inr (Or.inr (Or.inr c15)), z⟩))))
    rintro (⟨_, g⟩ | ⟨_, g⟩)
    · exact g z
    · exact g w
  · refine br_f c15 (h0 ?_)
    rintro (⟨g | g | g | g, _⟩ | ⟨g, _⟩)
    · exact c2 g
    · exact c13 g
    · exact c14 g
    · exact c15 g
    · exact c15 g
section
variable {yB yD yn yc yo yu ya yp yr yh ye ys er rt : Int32} {kd na nb vK vA vB eN eV eX fN fS fE fV : Nat → Int32} {post : Int32 → SY → Prop} {k a b : Int32}
theorem y_nd80 (h1 : k = 15 → ¬ dm_nm b → post 4 (yB, yD, yn, yc, yo, yu, ya, yp, yr, yh, ye, ys, er, rt, kd, na, nb, vK, vA, vB, eN, eV, eX, fN, fS, fE, fV)) (h0 : ¬ (k = 15 ∧ ¬ dm_nm b) → wY_node_98 post k a b yB yD yn yc yo yu ya yp yr yh ye ys er rt kd na nb vK vA vB eN eV eX fN fS fE fV) : wY_node_80 post k a b yB yD yn yc yo yu ya yp yr yh ye ys er rt kd na nb vK vA vB eN eV eX fN fS fE fV := by
  by_cases c : k = 15
  · refine br_t c ?_
    by_cases g : b < 0
    · exact br_t g (h1 c (fun z => z.1 g))
    · refine br_f g ?_
      by_cases g2 : b ≤ 7
      · exact br_t g2 (h0 (fun z => z.2 ⟨g, (dm_nm7 g).mp g2⟩))
      · exact br_f g2 (h1 c (fun z => g2 ((dm_nm7 g).mpr z.2)))
  · exact br_f c (h0 (fun z => c z.1))
theorem y_nd61 (h1 : dm_bad k a b → post 4 (yB, yD, yn, yc, yo, yu, ya, yp, yr, yh, ye, ys, er, rt, kd, na, nb, vK, vA, vB, eN, eV, eX, fN, fS, fE, fV)) (h0 : ¬ dm_bad k a b → wY_node_98 post k a b yB yD yn yc yo yu ya yp yr yh ye ys er rt kd na nb vK vA vB eN eV eX fN fS fE fV) (hk : k = 2 ∨ k = 13 ∨ k = 14 ∨ k = 15) : wY_node_61 post k a b 1 yB yD yn yc yo yu ya yp yr yh ye ys er rt kd na nb vK vA vB eN eV eX fN fS fE fV := by
  refine br_f (by decide) ?_
  by_cases g : a < 0
  · exact br_t g (h1 (Or.inl ⟨hk, fun z => z.1 g⟩))
  · refine br_f g ?_
    by_cases g2 : a ≤ 7
    · refine br_t g2 (y_nd80 (fun c z => h1 (Or.inr ⟨c, z⟩)) (fun z => h0 ?_))
      rintro (⟨_, w⟩ | w)
      · exact w ⟨g, (dm_nm7 g).mp g2⟩
      · exact z w
    · exact br_f g2 (h1 (Or.inl ⟨hk, fun z => g2 ((dm_nm7 g).mpr z.2)⟩))
theorem y_ndk (h1 : dm_bad k a b → post 4 (yB, yD, yn, yc, yo, yu, ya, yp, yr, yh, ye, ys, er, rt, kd, na, nb, vK, vA, vB, eN, eV, eX, fN, fS, fE, fV)) (h0 : ¬ dm_bad k a b → wY_node_98 post k a b yB yD yn yc yo yu ya yp yr yh ye ys er rt kd na nb vK vA vB eN eV eX fN fS fE fV) : ((k = 2 → (wY_node_56 post k a b yB yD yn yc yo yu ya yp yr yh ye ys er rt kd na nb vK vA vB eN eV eX fN fS fE fV)) ∧ (¬ k = 2 → (((k = 13 → (wY_node_56 post k a b yB yD yn yc yo yu ya yp yr yh ye ys er rt kd na nb vK vA vB eN eV eX fN fS fE fV)) ∧ (¬ k = 13 → (((k = 14 → (wY_node_56 post k a b yB yD yn yc yo yu ya yp yr yh ye ys er rt kd na nb vK vA vB eN eV eX fN fS fE fV)) ∧ (¬ k = 14 → (((k = 15 → (wY_node_56 post k a b yB yD yn yc yo yu ya yp yr yh ye ys er rt kd na nb vK vA vB eN eV eX fN fS fE fV)) ∧ (¬ k = 15 → (wY_node_61 post k a b 0 yB yD yn yc yo yu ya yp yr yh ye ys er rt kd na nb vK vA vB eN eV eX fN fS fE fV)))))))))))) := by
  by_cases c2 : k = 2
  · exact br_t c2 (y_nd61 h1 h0 (Or.inl c2))
  refine br_f c2 ?_
  by_cases c13 : k = 13
  · exact br_t c13 (y_nd61 h1 h0 (Or.inr (Or.inl c13)))
  refine br_f c13 ?_
  by_cases c14 : k = 14
  · exact br_t c14 (y_nd61 h1 h0 (Or.inr (Or.inr (Or.inl c14))))
  refine br_f c14 ?_
  by_cases c15 : k = 15
  · exact br_t c15 (y_nd61 h1 h0 (Or.inr (Or.inr (Or.inr c15))))
  · refine br_f c15 (br_t rfl (y_nd80 (fun c => absurd c c15) (fun z => h0 ?_)))
    rintro (⟨g | g | g | g, _⟩ | ⟨g, _⟩)
    · exact c2 g
    · exact c13 g
    · exact c14 g
    · exact c15 g
    · exact c15 g
theorem y_node1 {kd na nb : Nat → Int32} {n : Nat} (P : dm_Pg kd na nb n) (e : dm_O kd n = 0) (h : post 1 (yB, yD, nI n, yc, yo, yu, ya, yp, yr, yh, ye, ys, er, rt, kd, na, nb, vK, vA, vB, eN, eV, eX, fN, fS, fE, fV)) : wpY_node post (yB, yD, nI n, yc, yo, yu, ya, yp, yr, yh, ye, ys, er, rt, kd, na, nb, vK, vA, vB, eN, eV, eX, fN, fS, fE, fV) k a b := by
  unfold wpY_node
  exact y_isC P (fun _ => br_f (by decide) h) (fun g => absurd e g)
theorem y_node2 {kd na nb : Nat → Int32} (P : dm_Pg kd na nb 32) (e : ¬ dm_O kd 32 = 0) (h : post 2 (yB, yD, nI 32, yc, yo, yu, ya, yp, yr, yh, ye, ys, er, rt, kd, na, nb, vK, vA, vB, eN, eV, eX, fN, fS, fE, fV)) : wpY_node post (yB, yD, nI 32, yc, yo, yu, ya, yp, yr, yh, ye, ys, er, rt, kd, na, nb, vK, vA, vB, eN, eV, eX, fN, fS, fE, fV) k a b := by
  unfold wpY_node
  exact y_isC P (fun g => absurd g e) (fun _ => br_t rfl (br_f (by decide) h))
theorem y_node3 {kd na nb : Nat → Int32} {n : Nat} (P : dm_Pg kd na nb n) (e : ¬ dm_O kd n = 0) (hn : n < 32) (hk : k < 1 ∨ (¬ k < 1 ∧ ¬ k ≤ 16)) (h : post 3 (yB, yD, nI n, yc, yo, yu, ya, yp, yr, yh, ye, ys, er, rt, kd, na, nb, vK, vA, vB, eN, eV, eX, fN, fS, fE, fV)) : wpY_node post (yB, yD, nI n, yc, yo, yu, ya, yp, yr, yh, ye, ys, er, rt, kd, na, nb, vK, vA, vB, eN, eV, eX, fN, fS, fE, fV) k a b := by
  unfold wpY_node
  refine y_isC P (fun g => absurd g e) (fun _ => br_t rfl (br_t (nI_lt (b := 32) hn (by omega)) ?_))
  rcases hk with g | ⟨g, g2⟩
  · exact br_t g h
  · exact br_f g (br_f g2 h)
theorem y_node0 {kd na nb : Nat → Int32} {n : Nat} (P : dm_Pg kd na nb n) (e : ¬ dm_O kd n = 0) (hn : n < 32) (k1 : ¬ k < 1) (k2 : k ≤ 16) (h1 : dm_bad k a b → post 4 (yB, yD, nI n, yc, yo, yu, ya, yp, yr, yh, ye, ys, er, rt, kd, na, nb, vK, vA, vB, eN, eV, eX, fN, fS, fE, fV)) (h0 : ¬ dm_bad k a b → post 0 (yB, yD, nI (n + 1), yc, yo, yu, ya, yp, yr, yh, ye, ys, er, rt, upd kd n k, upd na n a, upd nb n b, vK, vA, vB, eN, eV, eX, fN, fS, fE, fV)) : wpY_node post (yB, yD, nI n, yc, yo, yu, ya, yp, yr, yh, ye, ys, er, rt, kd, na, nb, vK, vA, vB, eN, eV, eX, fN, fS, fE, fV) k a b := by
  unfold wpY_node
  refine y_isC P (fun g => absurd g e) (fun _ => br_t rfl (br_t (nI_lt (b := 32) hn (by omega)) (br_f k1 (br_t k2 (y_ndk h1 (fun z => ?_))))))
  have hin : vp_in (nI n) 33 := vp_in_nI (by omega) (by omega)
  refine ⟨hin, ?_⟩
  rw [nI_clamp (by omega)]
  exact nm_e ⟨hin, nm_e ⟨hin, nm_e (nm_r (nI_1 n) (h0 z))⟩⟩
end
theorem dm_Pg_s {kd na nb : Nat → Int32} {n : Nat} {k a b : Int32} (P : dm_Pg kd na nb n) (hn : n < 32) (hO : ¬ dm_O kd n = 0) (hk : dm_kk k) (hb : ¬ dm_bad k a b) : dm_Pg (upd kd n k) (upd na n a) (upd nb n b) (n + 1) := by
  obtain ⟨p1, p2, p3⟩ := P
  refine ⟨by omega, fun j hj => ?_, fun j hj => ?_⟩
  · have e : dm_O (upd kd n k) j = dm_O kd j := dm_O_c j (fun i hi => pk_un (by omega))
    rw [e]
    rcases Nat.eq_or_lt_of_le (show j ≤ n by omega) with z | z
    · subst z
      omega
    · exact p2 j z
  · rcases Nat.eq_or_lt_of_le (show j ≤ n by omega) with z | z
    · subst z
      rw [pk_us, pk_us, pk_us]
      refine ⟨hk, fun h => dm_nm_N (Classical.not_not.mp (fun g => hb (Or.inl ⟨h, g⟩))), fun h => dm_nm_N (Classical.not_not.mp (fun g => hb (Or.inr ⟨h, g⟩)))⟩
    · rw [pk_un (by omega), pk_un (by omega), pk_un (by omega)]
      exact p3 j z
theorem dm_O_s {kd : Nat → Int32} {n : Nat} {k : Int32} : dm_O (upd kd n k) (n + 1) = dm_O kd n + dm_ar k - 1 := by
  rw [dm_Os, pk_us, dm_O_c (kd' := kd) n (fun i hi => pk_un (by omega))]
theorem i_vc_node {k : Nat} {u : SX} {v : SY} (I : i_Rel k u v) (hk : k + 4 ≤ 2050) (v1 : Int32) (v2 : Int32) (v3 : Int32) : wpX_node (fun r u' => wpY_node (fun r' v' => r' = r ∧ i_Rel (k + 4) u' v') v v1 v2 v3) u v1 v2 v3 := by
  have J := I
  obtain ⟨xB, xD, xn, xo, xc, xl, oc, xu, xa, pk, xr, xw, en, cn, cb, cv, kd, na, nb, se, fn, tg, tn, pF, pS, cT, cB, bo, wN, wF, wB, wV⟩ := u
  obtain ⟨yB, yD, yn, yc, yo, yu, ya, yp, yr, yh, ye, ys, er, rt, yk, ym, yb, vK, vA, vB, eN, eV, eX, fN, fS, fE, fV⟩ := v
  obtain ⟨B, D, n, rfl, rfl, rfl, rfl, rfl, rfl, rfl, rfl, rfl, rfl, rfl, rfl, rfl, rfl, b1, b2, d1, d2, P, R⟩ := I
  have hb := dm_O_b yk n
  have hn := P.1
  by_cases e : dm_O yk n = 0
  · exact br_t (by rw [e]; rfl) (y_node1 P e ⟨rfl, J⟩)
  refine br_f (nI_ne0 (by omega) (by omega)) ?_
  by_cases hn2 : n < 32
  · refine br_t (nI_lt (b := 32) hn2 (by omega)) ?_
    by_cases k1 : v1 < 1
    · exact br_t k1 (y_node3 P e hn2 (Or.inl k1) ⟨rfl, J⟩)
    refine br_f k1 ?_
    by_cases k2 : v1 ≤ 16
    · refine br_t k2 ?_
      have hkk : dm_kk v1 := by
        have h0 : ¬ v1 < 0 := fun z => k1 (Int32.lt_trans z (by decide))
        obtain ⟨q, hq, rfl⟩ := nI_of h0
        exact ⟨q, Nat.le_of_not_lt (fun z => k1 (nI_lt (b := 1) z (by omega))), (nI_leI (b := 16) hq (by omega)).mp k2, rfl⟩
      refine x_bad (fun z => ?_) (fun z => ?_)
      · exact br_f (by decide) (y_node0 P e hn2 k1 k2 (fun _ => ⟨rfl, J⟩) (fun w => absurd z w))
      · refine br_t rfl ?_
        have hin : vp_in (nI n) 32 := vp_in_nI (by omega) (by omega)
        refine ⟨hin, ?_⟩
        rw [nI_clamp (by omega)]
        refine nm_e ⟨hin, nm_e ⟨hin, nm_e (nm_r (nI_1 n) (x_cc hkk (nm_r (dm_opn (by omega)) (y_node0 P e hn2 k1 k2 (fun w => absurd w z) (fun _ => ⟨rfl, ?_⟩)))))⟩⟩
        have hc : yc = 0 ∧ xl = 0 ∧ xr = 0 ∧ yr = -1 := by
          rcases R with h | h
          · exact h
          · exact absurd h.2.2.1.1 e
        exact ⟨B, D, n + 1, rfl, rfl, rfl, rfl, rfl, rfl, by rw [dm_O_s], rfl, rfl, rfl, rfl, rfl, rfl, rfl, b1, b2, d1, d2, dm_Pg_s P hn2 e hkk z, Or.inl hc⟩
    · exact br_f k2 (y_node3 P e hn2 (Or.inr ⟨k1, k2⟩) ⟨rfl, J⟩)
  · have e32 : n = 32 := by omega
    subst e32
    exact br_f (by decide) (y_node2 P e ⟨rfl, J⟩)
