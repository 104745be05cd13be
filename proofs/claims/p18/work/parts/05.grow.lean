/-! how the world grows -/
section
variable {kd na nb f : Nat → Int32} {n B hp ep un : Nat} {m bo : Nat → Int64} {L : Nat → Nat → Nat} {vK vA vB : Nat → Int32} {pF pS : Nat → Int64} {cT cB eN eV eX : Nat → Int32}
theorem dm_Ex_t {hp ep un hp1 ep1 un1 hp2 ep2 un2 : Nat} {m m1 m2 bo bo1 bo2 : Nat → Int64} {L L1 L2 : Nat → Nat → Nat} (h : dm_Ex hp ep un hp1 ep1 un1 m m1 bo bo1 L L1) (g : dm_Ex hp1 ep1 un1 hp2 ep2 un2 m1 m2 bo1 bo2 L1 L2) : dm_Ex hp ep un hp2 ep2 un2 m m2 bo bo2 L L2 := by
  obtain ⟨h1, h2, h3, h4, h5, h6⟩ := h
  obtain ⟨g1, g2, g3, g4, g5, g6⟩ := g
  refine ⟨by omega, by omega, by omega, fun c hc => ?_, fun k hk => ?_, fun e he x hx => ?_⟩
  · rw [g4 c (by omega), h4 c hc]
  · rw [g5 k (by omega), h5 k hk]
  · rw [g6 e (by omega) x hx, h6 e he x hx]
def dm_Wd (kd na nb f : Nat → Int32) (n B hp ep un : Nat) (m : Nat → Int64) (L : Nat → Nat → Nat) (bo : Nat → Int64) (vK vA vB : Nat → Int32) (pF pS : Nat → Int64) (cT cB eN eV eX : Nat → Int32) : Prop :=
  (∀ c, c < hp → dm_HC kd na nb f n hp ep un m L bo vK vA vB pF pS cT cB c) ∧ dm_LK L hp ep eN eV eX ∧ ep ≤ 2 * un ∧ un ≤ B
theorem dm_Wd_unit {bo' pF' pS' : Nat → Int64} {cT' cB' : Nat → Int32} (h : dm_Wd kd na nb f n B hp ep un m L bo vK vA vB pF pS cT cB eN eV eX) (hB : un < B) (e1 : ∀ k, k < (un + 1) * 8 → bo' k = bo k) (e4 : ∀ p, p ≤ un → pF' p = pF p) (e5 : ∀ p, p ≤ un → pS' p = pS p) (e6 : ∀ p, p ≤ un → cT' p = cT p) (e7 : ∀ p, p ≤ un → cB' p = cB p) :
    dm_Ex hp ep un hp ep (un + 1) m m bo bo' L L ∧ dm_Wd kd na nb f n B hp ep (un + 1) m L bo' vK vA vB pF' pS' cT' cB' eN eV eX := by
  have X : dm_Ex hp ep un hp ep (un + 1) m m bo bo' L L := ⟨Nat.le_refl _, Nat.le_refl _, by omega, fun _ _ => rfl, e1, fun _ _ _ _ => rfl⟩
  obtain ⟨h1, h2, h3, h4⟩ := h
  exact ⟨X, fun c hc => dm_HC_x X hc rfl rfl rfl e4 e5 e6 e7 (h1 c hc), h2, by omega, by omega⟩
theorem dm_Wd_cell {k x y : Int32} {v : Int64} (h : dm_Wd kd na nb f n B hp ep un m L bo vK vA vB pF pS cT cB eN eV eX) (hc : dm_HC kd na nb f n (hp + 1) ep un (vp_updL m hp v) L bo (upd vK hp k) (upd vA hp x) (upd vB hp y) pF pS cT cB hp) :
    dm_Ex hp ep un (hp + 1) ep un m (vp_updL m hp v) bo bo L L ∧ dm_Wd kd na nb f n B (hp + 1) ep un (vp_updL m hp v) L bo (upd vK hp k) (upd vA hp x) (upd vB hp y) pF pS cT cB eN eV eX := by
  have X : dm_Ex hp ep un (hp + 1) ep un m (vp_updL m hp v) bo bo L L := ⟨by omega, Nat.le_refl _, Nat.le_refl _, fun c hc => pk_uLn (by omega), fun _ _ => rfl, fun _ _ _ _ => rfl⟩
  obtain ⟨h1, h2, h3, h4⟩ := h
  refine ⟨X, fun c hc' => ?_, dm_LK_h h2 (by omega), h3, h4⟩
  rcases Nat.eq_or_lt_of_le (show c ≤ hp by omega) with z | z
  · subst z
    exact hc
  · exact dm_HC_x X z (pk_un (by omega)) (pk_un (by omega)) (pk_un (by omega)) (fun _ _ => rfl) (fun _ _ => rfl) (fun _ _ => rfl) (fun _ _ => rfl) (h1 c z)
theorem dm_Wd_env {y c q : Nat} (h : dm_Wd kd na nb f n B hp ep un m L bo vK vA vB pF pS cT cB eN eV eX) (hy : y < 8) (hc : c < hp) (hq : q ≤ ep) (he : ep + 1 ≤ 2 * un) :
    dm_Ex hp ep un hp (ep + 1) un m m bo bo L (dm_Ls L ep y c q) ∧ dm_Wd kd na nb f n B hp (ep + 1) un m (dm_Ls L ep y c q) bo vK vA vB pF pS cT cB (upd eN ep (nI y)) (upd eV ep (nI c)) (upd eX ep (dm_eI q)) := by
  have X : dm_Ex hp ep un hp (ep + 1) un m m bo bo L (dm_Ls L ep y c q) := ⟨Nat.le_refl _, by omega, Nat.le_refl _, fun _ _ => rfl, fun _ _ => rfl, fun e he x hx => dm_Ls_o he⟩
  obtain ⟨h1, h2, h3, h4⟩ := h
  exact ⟨X, fun c hc => dm_HC_x X hc rfl rfl rfl (fun _ _ => rfl) (fun _ _ => rfl) (fun _ _ => rfl) (fun _ _ => rfl) (h1 c hc), dm_LK_b h2 hy hc hq, he, h4⟩
theorem dm_Wd_int (h : dm_Wd kd na nb f n B hp ep un m L bo vK vA vB pF pS cT cB eN eV eX) (z y : Int32) :
    dm_Ex hp ep un (hp + 1) ep un m (vp_updL m hp (dm_val 1 z)) bo bo L L ∧ dm_Wd kd na nb f n B (hp + 1) ep un (vp_updL m hp (dm_val 1 z)) L bo (upd vK hp 1) (upd vA hp z) (upd vB hp y) pF pS cT cB eN eV eX :=
  dm_Wd_cell h (Or.inl ⟨pk_us, by rw [pk_uLs, pk_us]⟩)
theorem dm_Wd_pair {a b : Nat} (h : dm_Wd kd na nb f n B hp ep un m L bo vK vA vB pF pS cT cB eN eV eX) (hB : un < B) (ha : a < hp) (hb : b < hp) :
    dm_Ex hp ep un (hp + 1) ep (un + 1) m (vp_updL m hp (dm_val 2 (nI (un + 1)))) bo bo L L ∧ dm_Wd kd na nb f n B (hp + 1) ep (un + 1) (vp_updL m hp (dm_val 2 (nI (un + 1)))) L bo (upd vK hp 2) (upd vA hp (nI a)) (upd vB hp (nI b)) (vp_updL pF (un + 1) (m a)) (vp_updL pS (un + 1) (m b)) cT cB eN eV eX := by
  obtain ⟨X, g⟩ := dm_Wd_unit (bo' := bo) (pF' := vp_updL pF (un + 1) (m a)) (pS' := vp_updL pS (un + 1) (m b)) (cT' := cT) (cB' := cB) h hB (fun _ _ => rfl) (fun p hp => pk_uLn (by omega)) (fun p hp => pk_uLn (by omega)) (fun _ _ => rfl) (fun _ _ => rfl)
  obtain ⟨Y, g2⟩ := dm_Wd_cell (k := 2) (x := nI a) (y := nI b) (v := dm_val 2 (nI (un + 1))) g
    (Or.inr (Or.inl ⟨pk_us, un + 1, a, b, by omega, by omega, ha, hb, pk_uLs, pk_us, pk_us, by rw [pk_uLs, pk_uLn (by omega)], by rw [pk_uLs, pk_uLn (by omega)]⟩))
  exact ⟨dm_Ex_t X Y, g2⟩
/-- a closure of the lambda l; its set of bindings is s, and the unit's own set may be written -/
theorem dm_Wd_fun {l e s : Nat} {bo' : Nat → Int64} (h : dm_Wd kd na nb f n B hp ep un m L bo vK vA vB pF pS cT cB eN eV eX) (hB : un < B) (hl : l < n) (hk : kd l = 13 ∨ kd l = 15) (he : e ≤ ep) (hs : s ≤ un) (e1 : ∀ k, k < (un + 1) * 8 → bo' k = bo k) (hE : dm_EO hp m (L e) (fun x => bo (s * 8 + x)) (dm_LW kd na nb f l)) :
    dm_Ex hp ep un (hp + 1) ep (un + 1) m (vp_updL m hp (dm_val 3 (nI (un + 1)))) bo bo' L L ∧ dm_Wd kd na nb f n B (hp + 1) ep (un + 1) (vp_updL m hp (dm_val 3 (nI (un + 1)))) L bo' (upd vK hp 3) (upd vA hp (nI l)) (upd vB hp (dm_eI e)) pF pS (upd cT (un + 1) (nI (dm_cnt kd l))) (upd cB (un + 1) (nI s)) eN eV eX := by
  obtain ⟨X, g⟩ := dm_Wd_unit (bo' := bo') (pF' := pF) (pS' := pS) (cT' := upd cT (un + 1) (nI (dm_cnt kd l))) (cB' := upd cB (un + 1) (nI s)) h hB e1 (fun _ _ => rfl) (fun _ _ => rfl) (fun p hp => pk_un (by omega)) (fun p hp => pk_un (by omega))
  have Y : dm_Ex hp ep (un + 1) (hp + 1) ep (un + 1) m (vp_updL m hp (dm_val 3 (nI (un + 1)))) bo' bo' L L := ⟨by omega, Nat.le_refl _, Nat.le_refl _, fun c hc => pk_uLn (by omega), fun _ _ => rfl, fun _ _ _ _ => rfl⟩
  have hE2 := dm_EO_e (dm_Ex_t X Y) he hs hE
  obtain ⟨Y, g2⟩ := dm_Wd_cell (k := 3) (x := nI l) (y := dm_eI e) (v := dm_val 3 (nI (un + 1))) g
    (Or.inr (Or.inr ⟨pk_us, un + 1, l, e, s, by omega, by omega, hl, hk, he, by omega, pk_uLs, pk_us, pk_us, pk_us, pk_us, hE2⟩))
  exact ⟨dm_Ex_t X Y, g2⟩
end
