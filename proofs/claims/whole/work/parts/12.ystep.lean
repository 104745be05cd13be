/-! the reference's steps -/
def dm_kB (k : Int32) : Prop := k = 3 ∨ k = 4 ∨ k = 5 ∨ k = 6 ∨ k = 7 ∨ k = 8
theorem dm_kF_n {k : Int32} (h : dm_kF k) : ¬ k = 1 ∧ ¬ k = 2 ∧ ¬ k = 13 ∧ ¬ k = 15 := by
  rcases h with rfl | rfl | rfl | rfl | rfl | rfl | rfl | rfl | rfl | rfl | rfl | rfl <;> decide
theorem dm_kB_n {k : Int32} (h : dm_kB k) : ¬ k = 1 ∧ ¬ k = 2 ∧ ¬ k = 13 ∧ ¬ k = 15 ∧ ¬ k = 9 ∧ ¬ k = 11 ∧ ¬ k = 12 ∧ ¬ k = 14 ∧ ¬ k = 16 ∧ ¬ k = 10 := by
  rcases h with rfl | rfl | rfl | rfl | rfl | rfl <;> decide
theorem dm_kS_n {k : Int32} (h : dm_kS k) : ¬ k = 1 ∧ ¬ k = 2 ∧ ¬ k = 13 ∧ ¬ k = 15 ∧ ¬ k = 9 ∧ ¬ k = 11 ∧ ¬ k = 12 ∧ ¬ k = 14 := by
  rcases h with rfl | rfl | rfl | rfl | rfl | rfl | rfl | rfl <;> decide
/-- the two-place operators -/
def dm_bin (k a b : Int32) : Int32 := if k = 3 then a + b else if k = 4 then a - b else if k = 5 then a * b else if k = 6 then a / b else if k = 7 then (if b ≤ a then 0 else 1) else (if a = b then 1 else 0)
section
variable {yB yD yn yc yo yu ya yp yr yh ye ys er rt : Int32} {kd na nb vK vA vB eN eV eX fN fS fE fV : Nat → Int32} {j i c hp ep un B D a : Nat}
theorem y_alloc {post : Int32 → SY → Prop} {p0 p1 p2 : Int32} (hh : hp < 4096) (h : post (nI hp) (yB, yD, yn, yc, yo, yu, ya, yp, yr, nI (hp + 1), ye, ys, er, rt, kd, na, nb, upd vK hp p0, upd vA hp p1, upd vB hp p2, eN, eV, eX, fN, fS, fE, fV)) : wpY_alloc post (yB, yD, yn, yc, yo, yu, ya, yp, yr, nI hp, ye, ys, er, rt, kd, na, nb, vK, vA, vB, eN, eV, eX, fN, fS, fE, fV) p0 p1 p2 := by
  have hin : vp_in (nI hp) 4096 := vp_in_nI hh (by omega)
  have e : ∀ g : Nat → Int32, ∀ x, upd g (nI hp).toNatClampNeg x = upd g hp x := by
    intro g x
    rw [nI_clamp (by omega)]
  refine br_t (nI_lt (b := 4096) hh (by omega)) ⟨hin, nm_r (e _ _) ⟨hin, nm_r (e _ _) ⟨hin, nm_r (e _ _) (nm_r (nI_1 hp) ?_)⟩⟩⟩
  rw [nI_pred]
  exact h
theorem y_bnd {post : Int32 → SY → Prop} {p0 p1 p2 : Int32} (hh : ep < 256) (h : post (nI ep) (yB, yD, yn, yc, yo, yu, ya, yp, yr, yh, nI (ep + 1), ys, er, rt, kd, na, nb, vK, vA, vB, upd eN ep p0, upd eV ep p1, upd eX ep p2, fN, fS, fE, fV)) : wpY_bind post (yB, yD, yn, yc, yo, yu, ya, yp, yr, yh, nI ep, ys, er, rt, kd, na, nb, vK, vA, vB, eN, eV, eX, fN, fS, fE, fV) p0 p1 p2 := by
  have hin : vp_in (nI ep) 256 := vp_in_nI hh (by omega)
  have e : ∀ g : Nat → Int32, ∀ x, upd g (nI ep).toNatClampNeg x = upd g ep x := by
    intro g x
    rw [nI_clamp (by omega)]
  refine br_t (nI_lt (b := 256) hh (by omega)) ⟨hin, nm_r (e _ _) ⟨hin, nm_r (e _ _) ⟨hin, nm_r (e _ _) (nm_r (nI_1 ep) ?_)⟩⟩⟩
  rw [nI_pred]
  exact h
theorem y_push {post : SY → Prop} {p1 : Int32} {sp : Nat} (hs : sp < 512) (hc : c ≤ 32) (h : post (yB, yD, yn, yc, yo, yu, ya, yp, yr, yh, ye, nI (sp + 1), er, rt, kd, na, nb, vK, vA, vB, eN, eV, eX, upd fN sp (nI c), upd fS sp 0, upd fE sp p1, upd fV sp (-1))) : wpY_push post (yB, yD, yn, yc, yo, yu, ya, yp, yr, yh, ye, nI sp, er, rt, kd, na, nb, vK, vA, vB, eN, eV, eX, fN, fS, fE, fV) (nI c) p1 := by
  have hin : vp_in (nI sp) 512 := vp_in_nI hs (by omega)
  have e : ∀ g : Nat → Int32, ∀ x, upd g (nI sp).toNatClampNeg x = upd g sp x := by
    intro g x
    rw [nI_clamp (by omega)]
  exact br_f (nI_ge (b := 512) hs (by omega)) (br_f (nI_pos (by omega)) (br_t (nI_le (b := 32) hc (by omega)) ⟨hin, nm_r (e _ _) ⟨hin, nm_r (e _ _) ⟨hin, nm_r (e _ _) ⟨hin, nm_r (e _ _) (nm_r (nI_1 sp) h)⟩⟩⟩⟩))
theorem y_sp12 {post : Int32 → SY → Prop} (h : post 0 (nI B, yD, yn, yc, yo, nI B, ya, yp, yr, yh, ye, ys, 12, rt, kd, na, nb, vK, vA, vB, eN, eV, eX, fN, fS, fE, fV)) : wpY_spend post (nI B, yD, yn, yc, yo, nI B, ya, yp, yr, yh, ye, ys, er, rt, kd, na, nb, vK, vA, vB, eN, eV, eX, fN, fS, fE, fV) := br_t rfl h
theorem y_sp0 {post : Int32 → SY → Prop} (hu : un < B) (hB : B ≤ 64) (h : post 1 (nI B, yD, yn, yc, yo, nI (un + 1), ya, yp, yr, yh, ye, ys, er, rt, kd, na, nb, vK, vA, vB, eN, eV, eX, fN, fS, fE, fV)) : wpY_spend post (nI B, yD, yn, yc, yo, nI un, ya, yp, yr, yh, ye, ys, er, rt, kd, na, nb, vK, vA, vB, eN, eV, eX, fN, fS, fE, fV) :=
  br_f (fun e => by have := (nI_eq (by omega) (by omega)).mp e; omega) (nm_r (nI_1 un) h)
theorem y_kof {post : Int32 → Prop} (hc : c < 4096) (h : post (vK c)) : wpY_kindOf post (yB, yD, yn, yc, yo, yu, ya, yp, yr, yh, ye, ys, er, rt, kd, na, nb, vK, vA, vB, eN, eV, eX, fN, fS, fE, fV) (nI c) := by
  refine br_f (nI_pos (by omega)) (br_t (nI_lt (b := 4096) hc (by omega)) ⟨vp_in_nI hc (by omega), ?_⟩)
  rw [nI_clamp (by omega)]
  exact h
theorem y_vA {post : Int32 → Prop} (hc : c < 4096) (h : post (vA c)) : wpY_valA post (yB, yD, yn, yc, yo, yu, ya, yp, yr, yh, ye, ys, er, rt, kd, na, nb, vK, vA, vB, eN, eV, eX, fN, fS, fE, fV) (nI c) := by
  refine br_f (nI_pos (by omega)) (br_t (nI_lt (b := 4096) hc (by omega)) ⟨vp_in_nI hc (by omega), ?_⟩)
  rw [nI_clamp (by omega)]
  exact h
theorem y_vB {post : Int32 → Prop} (hc : c < 4096) (h : post (vB c)) : wpY_valB post (yB, yD, yn, yc, yo, yu, ya, yp, yr, yh, ye, ys, er, rt, kd, na, nb, vK, vA, vB, eN, eV, eX, fN, fS, fE, fV) (nI c) := by
  refine br_f (nI_pos (by omega)) (br_t (nI_lt (b := 4096) hc (by omega)) ⟨vp_in_nI hc (by omega), ?_⟩)
  rw [nI_clamp (by omega)]
  exact h
theorem y_lk5 {post : Int32 → Prop} {L : Nat → Nat → Nat} {x : Nat} (K : dm_LK L hp ep eN eV eX) (hep : ep ≤ 128) (hx : x < 8) (h : post (nI c)) : ∀ d e, e ≤ d → e ≤ ep → L e x = c + 1 → ∀ s, s + e ≤ 200 → wY_lookup_5 post (nI x) yB yD yn yc yo yu ya yp yr yh ye ys er rt kd na nb vK vA vB eN eV eX fN fS fE fV (d + 1) (dm_eI e) (nI s) := by
  intro d
  induction d with
  | zero =>
    intro e he hep2 hL s hs
    have e0 : e = 0 := by omega
    subst e0
    rw [K.1 x] at hL
    omega
  | succ d ih =>
    intro e he hep2 hL s hs
    cases e with
    | zero =>
      rw [K.1 x] at hL
      omega
    | succ q =>
      obtain ⟨y, q', c', g1, g2, g3, g4, g5, g6, g7⟩ := K.2 q (by omega)
      rw [g7 x hx] at hL
      rw [dm_eIs]
      have hin : vp_in (nI q) 256 := vp_in_nI (by omega) (by omega)
      refine br_f (nI_ge (b := 256) (by omega) (by omega)) (br_f (nI_pos (by omega)) (br_f (nI_ge (b := 256) (by omega) (by omega)) ⟨hin, ?_⟩))
      rw [nI_clamp (by omega)]
      by_cases exy : x = y
      · rw [if_pos exy] at hL
        have ec : c' = c := by omega
        refine br_t (by rw [g4, exy]) ⟨hin, ?_⟩
        rw [g5, ec]
        exact h
      · rw [if_neg exy] at hL
        refine br_f (fun w => ?_) ⟨hin, nm_r g6 (nm_r (nI_1 s) (ih q' (by omega) (by omega) hL (s + 1) (by omega)))⟩
        rw [g4] at w
        exact exy ((nI_eq (by omega) (by omega)).mp w).symm
theorem y_look {post : Int32 → Prop} {L : Nat → Nat → Nat} {x e : Nat} (K : dm_LK L hp ep eN eV eX) (hep : ep ≤ 128) (hx : x < 8) (he : e ≤ ep) (hL : L e x = c + 1) (h : post (nI c)) : wpY_lookup post (yB, yD, yn, yc, yo, yu, ya, yp, yr, yh, ye, ys, er, rt, kd, na, nb, vK, vA, vB, eN, eV, eX, fN, fS, fE, fV) (dm_eI e) (nI x) :=
  ⟨e + 1, y_lk5 K hep hx h e e (Nat.le_refl _) he hL 0 (by omega)⟩
/-! each step -/
theorem dm_at {g : Nat → Int32} {x : Int32} (hj : j < 1000) (e : g j = x) : g (nI j).toNatClampNeg = x := by
  rw [nI_clamp (by omega)]
  exact e
theorem dm_up {g : Nat → Int32} {x : Int32} (hj : j < 1000) : upd g (nI j).toNatClampNeg x = upd g j x := by
  rw [nI_clamp (by omega)]
theorem dm_v5 (hj : j < 512) : vp_in (nI j) 512 := vp_in_nI hj (by omega)
theorem dm_v3 (hi : i < 33) : vp_in (nI i) 33 := vp_in_nI hi (by omega)
theorem y_s_num {post : SY → Prop} {st : Int32} (hj : j < 512) (hi : i < 33) (qN : fN j = nI i) (qS : fS j = st) {ev : Int32} (qE : fE j = ev) (qK : kd i = 1) (hh : hp < 4096) (h : post (yB, yD, yn, yc, yo, yu, ya, yp, yr, nI (hp + 1), ye, nI j, er, nI hp, kd, na, nb, upd vK hp 1, upd vA hp (na i), upd vB hp 0, eN, eV, eX, fN, fS, fE, fV)) : wpY_step post (yB, yD, yn, yc, yo, yu, ya, yp, yr, nI hp, ye, nI (j + 1), er, rt, kd, na, nb, vK, vA, vB, eN, eV, eX, fN, fS, fE, fV) := by
  refine nm_r (nI_pred j) ⟨dm_v5 hj, nm_r (dm_at (by omega) qN) ⟨dm_v5 hj, nm_r (dm_at (by omega) qS) ⟨dm_v5 hj, nm_r (dm_at (by omega) qE) ⟨dm_v3 hi, nm_r (dm_at (by omega) qK) ?_⟩⟩⟩⟩
  refine br_t rfl ⟨dm_v3 hi, ?_⟩
  rw [nI_clamp (by omega)]
  exact y_alloc hh (nm_r (nI_pred j) h)
theorem y_s_var {post : SY → Prop} {L : Nat → Nat → Nat} {x e : Nat} {st : Int32} (hj : j < 512) (hi : i < 33) (qN : fN j = nI i) (qS : fS j = st) (qE : fE j = dm_eI e) (qK : kd i = 2) (qA : na i = nI x) (K : dm_LK L hp ep eN eV eX) (hep : ep ≤ 128) (hx : x < 8) (he : e ≤ ep) (hL : L e x = c + 1) (h : post (yB, yD, yn, yc, yo, yu, ya, yp, yr, yh, ye, nI j, er, nI c, kd, na, nb, vK, vA, vB, eN, eV, eX, fN, fS, fE, fV)) : wpY_step post (yB, yD, yn, yc, yo, yu, ya, yp, yr, yh, ye, nI (j + 1), er, rt, kd, na, nb, vK, vA, vB, eN, eV, eX, fN, fS, fE, fV) := by
  refine nm_r (nI_pred j) ⟨dm_v5 hj, nm_r (dm_at (by omega) qN) ⟨dm_v5 hj, nm_r (dm_at (by omega) qS) ⟨dm_v5 hj, nm_r (dm_at (by omega) qE) ⟨dm_v3 hi, nm_r (dm_at (by omega) qK) ?_⟩⟩⟩⟩
  refine br_f (by decide) (br_t rfl ⟨dm_v3 hi, ?_⟩)
  rw [dm_at (by omega) qA]
  exact y_look K hep hx he hL (nm_r (nI_pred j) h)
theorem y_s_fun12 {post : SY → Prop} {st : Int32} (hj : j < 512) (hi : i < 33) (qN : fN j = nI i) (qS : fS j = st) {ev : Int32} (qE : fE j = ev) (qK : kd i = 13) (h : post (nI B, yD, yn, yc, yo, nI B, ya, yp, yr, yh, ye, nI j, 12, rt, kd, na, nb, vK, vA, vB, eN, eV, eX, fN, fS, fE, fV)) : wpY_step post (nI B, yD, yn, yc, yo, nI B, ya, yp, yr, yh, ye, nI (j + 1), er, rt, kd, na, nb, vK, vA, vB, eN, eV, eX, fN, fS, fE, fV) := by
  refine nm_r (nI_pred j) ⟨dm_v5 hj, nm_r (dm_at (by omega) qN) ⟨dm_v5 hj, nm_r (dm_at (by omega) qS) ⟨dm_v5 hj, nm_r (dm_at (by omega) qE) ⟨dm_v3 hi, nm_r (dm_at (by omega) qK) ?_⟩⟩⟩⟩
  exact br_f (by decide) (br_f (by decide) (br_t rfl (y_sp12 (br_t rfl (nm_r (nI_pred j) h)))))
theorem y_s_fun {post : SY → Prop} {st : Int32} (hj : j < 512) (hi : i < 33) (qN : fN j = nI i) (qS : fS j = st) {ev : Int32} (qE : fE j = ev) (qK : kd i = 13) (hh : hp < 4096) (hu : un < B) (hB : B ≤ 64) (h : post (nI B, yD, yn, yc, yo, nI (un + 1), ya, yp, yr, nI (hp + 1), ye, nI j, er, nI hp, kd, na, nb, upd vK hp 3, upd vA hp (nI i), upd vB hp ev, eN, eV, eX, fN, fS, fE, fV)) : wpY_step post (nI B, yD, yn, yc, yo, nI un, ya, yp, yr, nI hp, ye, nI (j + 1), er, rt, kd, na, nb, vK, vA, vB, eN, eV, eX, fN, fS, fE, fV) := by
  refine nm_r (nI_pred j) ⟨dm_v5 hj, nm_r (dm_at (by omega) qN) ⟨dm_v5 hj, nm_r (dm_at (by omega) qS) ⟨dm_v5 hj, nm_r (dm_at (by omega) qE) ⟨dm_v3 hi, nm_r (dm_at (by omega) qK) ?_⟩⟩⟩⟩
  exact br_f (by decide) (br_f (by decide) (br_t rfl (y_sp0 hu hB (br_f (by decide) (y_alloc hh (nm_r (nI_pred j) h))))))
theorem y_s_rec12 {post : SY → Prop} (hj : j < 512) (hi : i < 33) (qN : fN j = nI i) (qS : fS j = 0) {ev : Int32} (qE : fE j = ev) (qK : kd i = 15) (h : post (nI B, yD, yn, yc, yo, nI B, ya, yp, yr, yh, ye, nI (j + 1), 12, rt, kd, na, nb, vK, vA, vB, eN, eV, eX, fN, fS, fE, fV)) : wpY_step post (nI B, yD, yn, yc, yo, nI B, ya, yp, yr, yh, ye, nI (j + 1), er, rt, kd, na, nb, vK, vA, vB, eN, eV, eX, fN, fS, fE, fV) := by
  refine nm_r (nI_pred j) ⟨dm_v5 hj, nm_r (dm_at (by omega) qN) ⟨dm_v5 hj, nm_r (dm_at (by omega) qS) ⟨dm_v5 hj, nm_r (dm_at (by omega) qE) ⟨dm_v3 hi, nm_r (dm_at (by omega) qK) ?_⟩⟩⟩⟩
  exact br_f (by decide) (br_f (by decide) (br_f (by decide) (br_t rfl (br_t rfl (y_sp12 (br_t rfl h))))))
theorem y_s_rec {post : SY → Prop} {n y : Nat} (hj : j < 512) (hi : i < 33) (qN : fN j = nI i) (qS : fS j = 0) {ev : Int32} (qE : fE j = ev) (qK : kd i = 15) (hj2 : j + 1 < 512) (qA : na i = nI y) (Pg : dm_Pg kd na nb n) (Tr : dm_Tr kd n) (hin : i < n) (hh : hp < 4096) (he : ep < 256) (hu : un < B) (hB : B ≤ 64) (h : post (nI B, yD, nI n, yc, yo, nI (un + 1), ya, yp, yr, nI (hp + 1), nI (ep + 1), nI (j + 1 + 1), er, rt, kd, na, nb, upd vK hp 3, upd vA hp (nI i), upd vB hp ev, upd eN ep (nI y), upd eV ep (nI hp), upd eX ep ev, upd fN (j + 1) (nI (dm_ch kd i 1)), upd (upd fS j 1) (j + 1) 0, upd fE (j + 1) (nI ep), upd fV (j + 1) (-1))) : wpY_step post (nI B, yD, nI n, yc, yo, nI un, ya, yp, yr, nI hp, nI ep, nI (j + 1), er, rt, kd, na, nb, vK, vA, vB, eN, eV, eX, fN, fS, fE, fV) := by
  have ar2 : 1 < dm_ar (kd i) := by
    rw [qK]
    decide
  have hl := dm_ch_lt Tr hin ar2
  have hn := Pg.1
  have hl32 : dm_ch kd i 1 ≤ 32 := by omega
  refine nm_r (nI_pred j) ⟨dm_v5 hj, nm_r (dm_at (by omega) qN) ⟨dm_v5 hj, nm_r (dm_at (by omega) qS) ⟨dm_v5 hj, nm_r (dm_at (by omega) qE) ⟨dm_v3 hi, nm_r (dm_at (by omega) qK) ?_⟩⟩⟩⟩
  refine br_f (by decide) (br_f (by decide) (br_f (by decide) (br_t rfl (br_t rfl (y_sp0 hu hB (br_f (by decide) (y_alloc hh ⟨dm_v3 hi, ?_⟩)))))))
  rw [dm_at (by omega) qA]
  exact y_bnd he (y_ch Pg Tr hin (Nat.le_of_lt ar2) ⟨dm_v5 hj, nm_r (dm_up (by omega)) (y_push hj2 hl32 h)⟩)
theorem y_s_oth {post : SY → Prop} (hj : j < 512) (hi : i < 33) (qN : fN j = nI i) (qS : fS j = 0) {ev : Int32} (qE : fE j = ev) (kF : dm_kF (kd i)) (hi2 : i + 1 ≤ 32) (hj2 : j + 1 < 512) (h : post (yB, yD, yn, yc, yo, yu, ya, yp, yr, yh, ye, nI (j + 1 + 1), er, rt, kd, na, nb, vK, vA, vB, eN, eV, eX, upd fN (j + 1) (nI (i + 1)), upd (upd fS j 1) (j + 1) 0, upd fE (j + 1) ev, upd fV (j + 1) (-1))) : wpY_step post (yB, yD, yn, yc, yo, yu, ya, yp, yr, yh, ye, nI (j + 1), er, rt, kd, na, nb, vK, vA, vB, eN, eV, eX, fN, fS, fE, fV) := by
  obtain ⟨n1, n2, n13, n15⟩ := dm_kF_n kF
  refine nm_r (nI_pred j) ⟨dm_v5 hj, nm_r (dm_at (by omega) qN) ⟨dm_v5 hj, nm_r (dm_at (by omega) qS) ⟨dm_v5 hj, nm_r (dm_at (by omega) qE) ⟨dm_v3 hi, nm_r (dm_at (by omega) rfl) ?_⟩⟩⟩⟩
  refine br_f n1 (br_f n2 (br_f n13 (br_f n15 (br_t rfl ⟨dm_v5 hj, nm_r (dm_up (by omega)) ?_⟩))))
  rw [nI_1]
  exact y_push hj2 hi2 h
theorem y_s_T {post : SY → Prop} {st : Int32} (hj : j < 512) (hi : i < 33) (qN : fN j = nI i) (qS : fS j = st) {ev : Int32} (qE : fE j = ev) (kT : dm_kT (kd i) st) (h : post (yB, yD, yn, yc, yo, yu, ya, yp, yr, yh, ye, nI j, er, rt, kd, na, nb, vK, vA, vB, eN, eV, eX, fN, fS, fE, fV)) : wpY_step post (yB, yD, yn, yc, yo, yu, ya, yp, yr, yh, ye, nI (j + 1), er, rt, kd, na, nb, vK, vA, vB, eN, eV, eX, fN, fS, fE, fV) := by
  rcases kT with ⟨qK, rfl⟩ | ⟨qK, rfl⟩ | ⟨qK, rfl⟩
  · refine nm_r (nI_pred j) ⟨dm_v5 hj, nm_r (dm_at (by omega) qN) ⟨dm_v5 hj, nm_r (dm_at (by omega) qS) ⟨dm_v5 hj, nm_r (dm_at (by omega) qE) ⟨dm_v3 hi, nm_r (dm_at (by omega) qK) ?_⟩⟩⟩⟩
    exact br_f (by decide) (br_f (by decide) (br_f (by decide) (br_f (by decide) (br_f (by decide) (br_t rfl (br_f (by decide) (nm_r (nI_pred j) h)))))))
  · refine nm_r (nI_pred j) ⟨dm_v5 hj, nm_r (dm_at (by omega) qN) ⟨dm_v5 hj, nm_r (dm_at (by omega) qS) ⟨dm_v5 hj, nm_r (dm_at (by omega) qE) ⟨dm_v3 hi, nm_r (dm_at (by omega) qK) ?_⟩⟩⟩⟩
    exact br_f (by decide) (br_f (by decide) (br_f (by decide) (br_f (by decide) (br_f (by decide) (br_f (by decide) (br_f (by decide) (br_f (by decide) (br_t rfl (br_f (by decide) (nm_r (nI_pred j) h))))))))))
  · refine nm_r (nI_pred j) ⟨dm_v5 hj, nm_r (dm_at (by omega) qN) ⟨dm_v5 hj, nm_r (dm_at (by omega) qS) ⟨dm_v5 hj, nm_r (dm_at (by omega) qE) ⟨dm_v3 hi, nm_r (dm_at (by omega) qK) ?_⟩⟩⟩⟩
    exact br_f (by decide) (br_f (by decide) (br_f (by decide) (br_t rfl (br_f (by decide) (nm_r (nI_pred j) h)))))
theorem y_s_body {post : SY → Prop} (hj : j < 512) (hi : i < 33) (qN : fN j = nI i) (qS : fS j = 3) {ev : Int32} (qE : fE j = ev) (qK : kd i = 16) (h : post (yB, yD, yn, yc, yo, yu, nI a, yp, yr, yh, ye, nI j, er, rt, kd, na, nb, vK, vA, vB, eN, eV, eX, fN, fS, fE, fV)) : wpY_step post (yB, yD, yn, yc, yo, yu, nI (a + 1), yp, yr, yh, ye, nI (j + 1), er, rt, kd, na, nb, vK, vA, vB, eN, eV, eX, fN, fS, fE, fV) := by
  refine nm_r (nI_pred j) ⟨dm_v5 hj, nm_r (dm_at (by omega) qN) ⟨dm_v5 hj, nm_r (dm_at (by omega) qS) ⟨dm_v5 hj, nm_r (dm_at (by omega) qE) ⟨dm_v3 hi, nm_r (dm_at (by omega) qK) ?_⟩⟩⟩⟩
  exact br_f (by decide) (br_f (by decide) (br_f (by decide) (br_f (by decide) (br_f (by decide) (br_f (by decide) (br_f (by decide) (br_f (by decide) (br_f (by decide) (br_t rfl (br_t rfl (nm_r (nI_pred a) (nm_r (nI_pred j) h))))))))))))
theorem y_s_if8 {post : SY → Prop} (hj : j < 512) (hi : i < 33) (qN : fN j = nI i) (qS : fS j = 1) {ev : Int32} (qE : fE j = ev) (qK : kd i = 9) (hc : c < 4096) (hk : ¬ vK c = 1) (h : post (yB, yD, yn, yc, yo, yu, ya, yp, yr, yh, ye, nI (j + 1), 8, nI c, kd, na, nb, vK, vA, vB, eN, eV, eX, fN, fS, fE, fV)) : wpY_step post (yB, yD, yn, yc, yo, yu, ya, yp, yr, yh, ye, nI (j + 1), er, nI c, kd, na, nb, vK, vA, vB, eN, eV, eX, fN, fS, fE, fV) := by
  refine nm_r (nI_pred j) ⟨dm_v5 hj, nm_r (dm_at (by omega) qN) ⟨dm_v5 hj, nm_r (dm_at (by omega) qS) ⟨dm_v5 hj, nm_r (dm_at (by omega) qE) ⟨dm_v3 hi, nm_r (dm_at (by omega) qK) ?_⟩⟩⟩⟩
  exact br_f (by decide) (br_f (by decide) (br_f (by decide) (br_f (by decide) (br_f (by decide) (br_t rfl (br_t rfl (y_kof hc (br_f hk h))))))))
theorem y_s_if {post : SY → Prop} {n b : Nat} (hj : j < 512) (hi : i < 33) (qN : fN j = nI i) (qS : fS j = 1) {ev : Int32} (qE : fE j = ev) (qK : kd i = 9) (hc : c < 4096) (hk : vK c = 1) (hb : (vA c = 0 ∧ b = 2) ∨ (¬ vA c = 0 ∧ b = 1)) (hj2 : j + 1 < 512) (Pg : dm_Pg kd na nb n) (Tr : dm_Tr kd n) (hin : i < n) (h : post (yB, yD, nI n, yc, yo, yu, ya, yp, yr, yh, ye, nI (j + 1 + 1), er, nI c, kd, na, nb, vK, vA, vB, eN, eV, eX, upd fN (j + 1) (nI (dm_ch kd i b)), upd (upd fS j 2) (j + 1) 0, upd fE (j + 1) ev, upd fV (j + 1) (-1))) : wpY_step post (yB, yD, nI n, yc, yo, yu, ya, yp, yr, yh, ye, nI (j + 1), er, nI c, kd, na, nb, vK, vA, vB, eN, eV, eX, fN, fS, fE, fV) := by
  have ar3 : dm_ar (kd i) = 3 := by
    rw [qK]
    decide
  have hl := dm_ch_lt Tr hin (c := b) (by omega)
  have hn := Pg.1
  have W : wY_step_299 post (nI j) (nI i) ev (nI b) yB yD (nI n) yc yo yu ya yp yr yh ye (nI (j + 1)) er (nI c) kd na nb vK vA vB eN eV eX fN fS fE fV := y_ch Pg Tr hin (by omega) ⟨dm_v5 hj, nm_r (dm_up (by omega)) (y_push hj2 (by omega) h)⟩
  refine nm_r (nI_pred j) ⟨dm_v5 hj, nm_r (dm_at (by omega) qN) ⟨dm_v5 hj, nm_r (dm_at (by omega) qS) ⟨dm_v5 hj, nm_r (dm_at (by omega) qE) ⟨dm_v3 hi, nm_r (dm_at (by omega) qK) ?_⟩⟩⟩⟩
  refine br_f (by decide) (br_f (by decide) (br_f (by decide) (br_f (by decide) (br_f (by decide) (br_t rfl (br_t rfl (y_kof hc (br_t hk (y_vA hc ?_)))))))))
  rcases hb with ⟨z, rfl⟩ | ⟨z, rfl⟩
  · exact br_t z W
  · exact br_f z W
theorem y_s_fst10 {post : SY → Prop} (hj : j < 512) (hi : i < 33) (qN : fN j = nI i) (qS : fS j = 1) {ev : Int32} (qE : fE j = ev) (qK : kd i = 11) (hc : c < 4096) (hk : ¬ vK c = 2) (h : post (yB, yD, yn, yc, yo, yu, ya, yp, yr, yh, ye, nI (j + 1), 10, nI c, kd, na, nb, vK, vA, vB, eN, eV, eX, fN, fS, fE, fV)) : wpY_step post (yB, yD, yn, yc, yo, yu, ya, yp, yr, yh, ye, nI (j + 1), er, nI c, kd, na, nb, vK, vA, vB, eN, eV, eX, fN, fS, fE, fV) := by
  refine nm_r (nI_pred j) ⟨dm_v5 hj, nm_r (dm_at (by omega) qN) ⟨dm_v5 hj, nm_r (dm_at (by omega) qS) ⟨dm_v5 hj, nm_r (dm_at (by omega) qE) ⟨dm_v3 hi, nm_r (dm_at (by omega) qK) ?_⟩⟩⟩⟩
  exact br_f (by decide) (br_f (by decide) (br_f (by decide) (br_f (by decide) (br_f (by decide) (br_f (by decide) (br_t rfl (y_kof hc (br_f hk h))))))))
theorem y_s_fst {post : SY → Prop} (hj : j < 512) (hi : i < 33) (qN : fN j = nI i) (qS : fS j = 1) {ev : Int32} (qE : fE j = ev) (qK : kd i = 11) (hc : c < 4096) (hk : vK c = 2) (h : post (yB, yD, yn, yc, yo, yu, ya, yp, yr, yh, ye, nI j, er, vA c, kd, na, nb, vK, vA, vB, eN, eV, eX, fN, fS, fE, fV)) : wpY_step post (yB, yD, yn, yc, yo, yu, ya, yp, yr, yh, ye, nI (j + 1), er, nI c, kd, na, nb, vK, vA, vB, eN, eV, eX, fN, fS, fE, fV) := by
  refine nm_r (nI_pred j) ⟨dm_v5 hj, nm_r (dm_at (by omega) qN) ⟨dm_v5 hj, nm_r (dm_at (by omega) qS) ⟨dm_v5 hj, nm_r (dm_at (by omega) qE) ⟨dm_v3 hi, nm_r (dm_at (by omega) qK) ?_⟩⟩⟩⟩
  exact br_f (by decide) (br_f (by decide) (br_f (by decide) (br_f (by decide) (br_f (by decide) (br_f (by decide) (br_t rfl (y_kof hc (br_t hk (br_t rfl (y_vA hc (nm_r (nI_pred j) h)))))))))))
theorem y_s_snd10 {post : SY → Prop} (hj : j < 512) (hi : i < 33) (qN : fN j = nI i) (qS : fS j = 1) {ev : Int32} (qE : fE j = ev) (qK : kd i = 12) (hc : c < 4096) (hk : ¬ vK c = 2) (h : post (yB, yD, yn, yc, yo, yu, ya, yp, yr, yh, ye, nI (j + 1), 10, nI c, kd, na, nb, vK, vA, vB, eN, eV, eX, fN, fS, fE, fV)) : wpY_step post (yB, yD, yn, yc, yo, yu, ya, yp, yr, yh, ye, nI (j + 1), er, nI c, kd, na, nb, vK, vA, vB, eN, eV, eX, fN, fS, fE, fV) := by
  refine nm_r (nI_pred j) ⟨dm_v5 hj, nm_r (dm_at (by omega) qN) ⟨dm_v5 hj, nm_r (dm_at (by omega) qS) ⟨dm_v5 hj, nm_r (dm_at (by omega) qE) ⟨dm_v3 hi, nm_r (dm_at (by omega) qK) ?_⟩⟩⟩⟩
  exact br_f (by decide) (br_f (by decide) (br_f (by decide) (br_f (by decide) (br_f (by decide) (br_f (by decide) (br_f (by decide) (br_t rfl (y_kof hc (br_f hk h)))))))))
theorem y_s_snd {post : SY → Prop} (hj : j < 512) (hi : i < 33) (qN : fN j = nI i) (qS : fS j = 1) {ev : Int32} (qE : fE j = ev) (qK : kd i = 12) (hc : c < 4096) (hk : vK c = 2) (h : post (yB, yD, yn, yc, yo, yu, ya, yp, yr, yh, ye, nI j, er, vB c, kd, na, nb, vK, vA, vB, eN, eV, eX, fN, fS, fE, fV)) : wpY_step post (yB, yD, yn, yc, yo, yu, ya, yp, yr, yh, ye, nI (j + 1), er, nI c, kd, na, nb, vK, vA, vB, eN, eV, eX, fN, fS, fE, fV) := by
  refine nm_r (nI_pred j) ⟨dm_v5 hj, nm_r (dm_at (by omega) qN) ⟨dm_v5 hj, nm_r (dm_at (by omega) qS) ⟨dm_v5 hj, nm_r (dm_at (by omega) qE) ⟨dm_v3 hi, nm_r (dm_at (by omega) qK) ?_⟩⟩⟩⟩
  exact br_f (by decide) (br_f (by decide) (br_f (by decide) (br_f (by decide) (br_f (by decide) (br_f (by decide) (br_f (by decide) (br_t rfl (y_kof hc (br_t hk (br_f (by decide) (y_vB hc (nm_r (nI_pred j) h))))))))))))
theorem y_s_let12 {post : SY → Prop} (hj : j < 512) (hi : i < 33) (qN : fN j = nI i) (qS : fS j = 1) {ev : Int32} (qE : fE j = ev) (qK : kd i = 14) (h : post (nI B, yD, yn, yc, yo, nI B, ya, yp, yr, yh, ye, nI (j + 1), 12, rt, kd, na, nb, vK, vA, vB, eN, eV, eX, fN, fS, fE, fV)) : wpY_step post (nI B, yD, yn, yc, yo, nI B, ya, yp, yr, yh, ye, nI (j + 1), er, rt, kd, na, nb, vK, vA, vB, eN, eV, eX, fN, fS, fE, fV) := by
  refine nm_r (nI_pred j) ⟨dm_v5 hj, nm_r (dm_at (by omega) qN) ⟨dm_v5 hj, nm_r (dm_at (by omega) qS) ⟨dm_v5 hj, nm_r (dm_at (by omega) qE) ⟨dm_v3 hi, nm_r (dm_at (by omega) qK) ?_⟩⟩⟩⟩
  exact br_f (by decide) (br_f (by decide) (br_f (by decide) (br_f (by decide) (br_f (by decide) (br_f (by decide) (br_f (by decide) (br_f (by decide) (br_t rfl (br_t rfl (y_sp12 (br_t rfl h)))))))))))
theorem y_s_let {post : SY → Prop} {n y : Nat} (hj : j < 512) (hi : i < 33) (qN : fN j = nI i) (qS : fS j = 1) {ev : Int32} (qE : fE j = ev) (qK : kd i = 14) (hj2 : j + 1 < 512) (qA : na i = nI y) (Pg : dm_Pg kd na nb n) (Tr : dm_Tr kd n) (hin : i < n) (he : ep < 256) (hu : un < B) (hB : B ≤ 64) (h : post (nI B, yD, nI n, yc, yo, nI (un + 1), ya, yp, yr, yh, nI (ep + 1), nI (j + 1 + 1), er, rt, kd, na, nb, vK, vA, vB, upd eN ep (nI y), upd eV ep rt, upd eX ep ev, upd fN (j + 1) (nI (dm_ch kd i 1)), upd (upd fS j 2) (j + 1) 0, upd fE (j + 1) (nI ep), upd fV (j + 1) (-1))) : wpY_step post (nI B, yD, nI n, yc, yo, nI un, ya, yp, yr, yh, nI ep, nI (j + 1), er, rt, kd, na, nb, vK, vA, vB, eN, eV, eX, fN, fS, fE, fV) := by
  have ar2 : 1 < dm_ar (kd i) := by
    rw [qK]
    decide
  have hl := dm_ch_lt Tr hin ar2
  have hn := Pg.1
  have hl32 : dm_ch kd i 1 ≤ 32 := by omega
  refine nm_r (nI_pred j) ⟨dm_v5 hj, nm_r (dm_at (by omega) qN) ⟨dm_v5 hj, nm_r (dm_at (by omega) qS) ⟨dm_v5 hj, nm_r (dm_at (by omega) qE) ⟨dm_v3 hi, nm_r (dm_at (by omega) qK) ?_⟩⟩⟩⟩
  refine br_f (by decide) (br_f (by decide) (br_f (by decide) (br_f (by decide) (br_f (by decide) (br_f (by decide) (br_f (by decide) (br_f (by decide) (br_t rfl (br_t rfl (y_sp0 hu hB (br_f (by decide) ⟨dm_v3 hi, ?_⟩)))))))))))
  rw [dm_at (by omega) qA]
  exact y_bnd he (y_ch Pg Tr hin (Nat.le_of_lt ar2) ⟨dm_v5 hj, nm_r (dm_up (by omega)) (y_push hj2 hl32 h)⟩)
theorem y_s_506 {post : SY → Prop} {st : Int32} (hj : j < 512) (hi : i < 33) (qN : fN j = nI i) (qS : fS j = st) {ev : Int32} (qE : fE j = ev) (kS : dm_kS (kd i)) (h0 : ¬ st = 0) (h3 : ¬ st = 3) (h : wY_step_506 post (nI j) (nI i) st ev (kd i) yB yD yn yc yo yu ya yp yr yh ye (nI (j + 1)) er rt kd na nb vK vA vB eN eV eX fN fS fE fV) : wpY_step post (yB, yD, yn, yc, yo, yu, ya, yp, yr, yh, ye, nI (j + 1), er, rt, kd, na, nb, vK, vA, vB, eN, eV, eX, fN, fS, fE, fV) := by
  obtain ⟨n1, n2, n13, n15, n9, n11, n12, n14⟩ := dm_kS_n kS
  refine nm_r (nI_pred j) ⟨dm_v5 hj, nm_r (dm_at (by omega) qN) ⟨dm_v5 hj, nm_r (dm_at (by omega) qS) ⟨dm_v5 hj, nm_r (dm_at (by omega) qE) ⟨dm_v3 hi, nm_r (dm_at (by omega) rfl) ?_⟩⟩⟩⟩
  refine br_f n1 (br_f n2 (br_f n13 (br_f n15 (br_f h0 (br_f n9 (br_f n11 (br_f n12 (br_f n14 (?_)))))))))
  by_cases k16 : kd i = 16
  · exact br_t k16 (br_f h3 h)
  · exact br_f k16 h
theorem y_s_one {post : SY → Prop} {n : Nat} (hj : j < 512) (hi : i < 33) (qN : fN j = nI i) (qS : fS j = 1) {ev : Int32} (qE : fE j = ev) (kS : dm_kS (kd i)) (ar2 : dm_ar (kd i) = 2) (hj2 : j + 1 < 512) (Pg : dm_Pg kd na nb n) (Tr : dm_Tr kd n) (hin : i < n) (h : post (yB, yD, nI n, yc, yo, yu, ya, yp, yr, yh, ye, nI (j + 1 + 1), er, rt, kd, na, nb, vK, vA, vB, eN, eV, eX, upd fN (j + 1) (nI (dm_ch kd i 1)), upd (upd fS j 2) (j + 1) 0, upd fE (j + 1) ev, upd (upd fV j rt) (j + 1) (-1))) : wpY_step post (yB, yD, nI n, yc, yo, yu, ya, yp, yr, yh, ye, nI (j + 1), er, rt, kd, na, nb, vK, vA, vB, eN, eV, eX, fN, fS, fE, fV) := by
  have hl := dm_ch_lt Tr hin (c := 1) (by omega)
  have hn := Pg.1
  refine y_s_506 hj hi qN qS qE kS (by decide) (by decide) ?_
  exact br_t rfl ⟨dm_v5 hj, nm_r (dm_up (by omega)) ⟨dm_v5 hj, nm_r (dm_up (by omega)) (y_ch Pg Tr hin (c := 1) (by omega) (y_push hj2 (by omega) h))⟩⟩
theorem y_s_pair12 {post : SY → Prop} {w : Int32} (hj : j < 512) (hi : i < 33) (qN : fN j = nI i) (qS : fS j = 2) {ev : Int32} (qE : fE j = ev) (qV : fV j = w) (qK : kd i = 10) (h : post (nI B, yD, yn, yc, yo, nI B, ya, yp, yr, yh, ye, nI j, 12, rt, kd, na, nb, vK, vA, vB, eN, eV, eX, fN, fS, fE, fV)) : wpY_step post (nI B, yD, yn, yc, yo, nI B, ya, yp, yr, yh, ye, nI (j + 1), er, rt, kd, na, nb, vK, vA, vB, eN, eV, eX, fN, fS, fE, fV) := by
  refine y_s_506 hj hi qN qS qE (by rw [qK]; exact Or.inr (Or.inr (Or.inr (Or.inr (Or.inr (Or.inr (Or.inl rfl))))))) (by decide) (by decide) ?_
  exact br_f (by decide) ⟨dm_v5 hj, nm_r (dm_at (by omega) qV) (br_t qK (y_sp12 (br_t rfl (nm_r (nI_pred j) h))))⟩
theorem y_s_pair {post : SY → Prop} {w : Int32} (hj : j < 512) (hi : i < 33) (qN : fN j = nI i) (qS : fS j = 2) {ev : Int32} (qE : fE j = ev) (qV : fV j = w) (qK : kd i = 10) (hh : hp < 4096) (hu : un < B) (hB : B ≤ 64) (h : post (nI B, yD, yn, yc, yo, nI (un + 1), ya, yp, yr, nI (hp + 1), ye, nI j, er, nI hp, kd, na, nb, upd vK hp 2, upd vA hp w, upd vB hp rt, eN, eV, eX, fN, fS, fE, fV)) : wpY_step post (nI B, yD, yn, yc, yo, nI un, ya, yp, yr, nI hp, ye, nI (j + 1), er, rt, kd, na, nb, vK, vA, vB, eN, eV, eX, fN, fS, fE, fV) := by
  refine y_s_506 hj hi qN qS qE (by rw [qK]; exact Or.inr (Or.inr (Or.inr (Or.inr (Or.inr (Or.inr (Or.inl rfl))))))) (by decide) (by decide) ?_
  exact br_f (by decide) ⟨dm_v5 hj, nm_r (dm_at (by omega) qV) (br_t qK (y_sp0 hu hB (br_f (by decide) (y_alloc hh (nm_r (nI_pred j) h)))))⟩
theorem y_s_bin {post : SY → Prop} {w : Int32} (hj : j < 512) (hi : i < 33) (qN : fN j = nI i) (qS : fS j = 2) {ev : Int32} (qE : fE j = ev) (qV : fV j = w) (kB : dm_kB (kd i)) (h : wpY_binop post (yB, yD, yn, yc, yo, yu, ya, yp, yr, yh, ye, nI (j + 1), er, rt, kd, na, nb, vK, vA, vB, eN, eV, eX, fN, fS, fE, fV) (kd i) w rt) : wpY_step post (yB, yD, yn, yc, yo, yu, ya, yp, yr, yh, ye, nI (j + 1), er, rt, kd, na, nb, vK, vA, vB, eN, eV, eX, fN, fS, fE, fV) := by
  obtain ⟨n1, n2, n13, n15, n9, n11, n12, n14, n16, n10⟩ := dm_kB_n kB
  have kS : dm_kS (kd i) := by
    rcases kB with e | e | e | e | e | e <;> simp [dm_kS, e]
  refine y_s_506 hj hi qN qS qE kS (by decide) (by decide) ?_
  exact br_f (by decide) ⟨dm_v5 hj, nm_r (dm_at (by omega) qV) (br_f n10 (br_f n16 h))⟩
theorem y_b8a {post : SY → Prop} {k : Int32} {r : Int32} (hc : c < 4096) (hk : ¬ vK c = 1) (h : post (yB, yD, yn, yc, yo, yu, ya, yp, yr, yh, ye, ys, 8, rt, kd, na, nb, vK, vA, vB, eN, eV, eX, fN, fS, fE, fV)) : wpY_binop post (yB, yD, yn, yc, yo, yu, ya, yp, yr, yh, ye, ys, er, rt, kd, na, nb, vK, vA, vB, eN, eV, eX, fN, fS, fE, fV) k (nI c) r := by
  unfold wpY_binop
  exact y_kof hc (br_f hk h)
theorem y_b8b {post : SY → Prop} {k : Int32} {d : Nat} (hc : c < 4096) (hd : d < 4096) (hk : vK c = 1) (hk2 : ¬ vK d = 1) (h : post (yB, yD, yn, yc, yo, yu, ya, yp, yr, yh, ye, ys, 8, rt, kd, na, nb, vK, vA, vB, eN, eV, eX, fN, fS, fE, fV)) : wpY_binop post (yB, yD, yn, yc, yo, yu, ya, yp, yr, yh, ye, ys, er, rt, kd, na, nb, vK, vA, vB, eN, eV, eX, fN, fS, fE, fV) k (nI c) (nI d) := by
  unfold wpY_binop
  exact y_kof hc (br_t hk (y_kof hd (br_f hk2 h)))
theorem y_b11 {post : SY → Prop} {d : Nat} (hc : c < 4096) (hd : d < 4096) (hk : vK c = 1) (hk2 : vK d = 1) (hz : vA d = 0) (h : post (yB, yD, yn, yc, yo, yu, ya, yp, yr, yh, ye, ys, 11, rt, kd, na, nb, vK, vA, vB, eN, eV, eX, fN, fS, fE, fV)) : wpY_binop post (yB, yD, yn, yc, yo, yu, ya, yp, yr, yh, ye, ys, er, rt, kd, na, nb, vK, vA, vB, eN, eV, eX, fN, fS, fE, fV) 6 (nI c) (nI d) := by
  unfold wpY_binop
  exact y_kof hc (br_t hk (y_kof hd (br_t hk2 (y_vA hc (y_vA hd (br_f (by decide) (br_f (by decide) (br_f (by decide) (br_t rfl (br_t hz h))))))))))
theorem y_b {post : SY → Prop} {k : Int32} {d : Nat} (hc : c < 4096) (hd : d < 4096) (hh : hp < 4096) (hk : vK c = 1) (hk2 : vK d = 1) (hz : ¬ (k = 6 ∧ vA d = 0)) (kB : dm_kB k) (h : post (yB, yD, yn, yc, yo, yu, ya, yp, yr, nI (hp + 1), ye, nI j, er, nI hp, kd, na, nb, upd vK hp 1, upd vA hp (dm_bin k (vA c) (vA d)), upd vB hp 0, eN, eV, eX, fN, fS, fE, fV)) : wpY_binop post (yB, yD, yn, yc, yo, yu, ya, yp, yr, nI hp, ye, nI (j + 1), er, rt, kd, na, nb, vK, vA, vB, eN, eV, eX, fN, fS, fE, fV) k (nI c) (nI d) := by
  have W : ∀ z, z = dm_bin k (vA c) (vA d) → wY_binop_159 post z yB yD yn yc yo yu ya yp yr (nI hp) ye (nI (j + 1)) er rt kd na nb vK vA vB eN eV eX fN fS fE fV := by
    rintro z rfl
    unfold wY_binop_159
    exact y_alloc hh (nm_r (nI_pred j) h)
  unfold wpY_binop
  refine y_kof hc (br_t hk (y_kof hd (br_t hk2 (y_vA hc (y_vA hd ?_)))))
  rcases kB with rfl | rfl | rfl | rfl | rfl | rfl
  · exact br_t rfl (nm_e (W _ rfl))
  · exact br_f (by decide) (br_t rfl (nm_e (W _ rfl)))
  · exact br_f (by decide) (br_f (by decide) (br_t rfl (nm_e (W _ rfl))))
  · have hz2 : ¬ vA d = 0 := fun e => hz ⟨rfl, e⟩
    exact br_f (by decide) (br_f (by decide) (br_f (by decide) (br_t rfl (br_f hz2 ⟨hz2, nm_e (W _ rfl)⟩))))
  · refine br_f (by decide) (br_f (by decide) (br_f (by decide) (br_f (by decide) (br_t rfl ?_))))
    by_cases e : vA d ≤ vA c
    · exact br_t e (W _ (if_pos e).symm)
    · exact br_f e (W _ (if_neg e).symm)
  · refine br_f (by decide) (br_f (by decide) (br_f (by decide) (br_f (by decide) (br_f (by decide) ?_))))
    by_cases e : vA c = vA d
    · exact br_t e (W _ (if_pos e).symm)
    · exact br_f e (W _ (if_neg e).symm)
theorem y_s_app {post : SY → Prop} {w : Int32} (hj : j < 512) (hi : i < 33) (qN : fN j = nI i) (qS : fS j = 2) {ev : Int32} (qE : fE j = ev) (qV : fV j = w) (qK : kd i = 16) (h : wpY_apply post (yB, yD, yn, yc, yo, yu, ya, yp, yr, yh, ye, nI (j + 1), er, rt, kd, na, nb, vK, vA, vB, eN, eV, eX, fN, fS, fE, fV) (nI j) w rt) : wpY_step post (yB, yD, yn, yc, yo, yu, ya, yp, yr, yh, ye, nI (j + 1), er, rt, kd, na, nb, vK, vA, vB, eN, eV, eX, fN, fS, fE, fV) := by
  refine y_s_506 hj hi qN qS qE (by rw [qK]; exact Or.inr (Or.inr (Or.inr (Or.inr (Or.inr (Or.inr (Or.inr rfl))))))) (by decide) (by decide) ?_
  exact br_f (by decide) ⟨dm_v5 hj, nm_r (dm_at (by omega) qV) (br_f (by rw [qK]; decide) (br_t qK h))⟩
theorem y_a9 {post : SY → Prop} {r : Int32} (hc : c < 4096) (hk : ¬ vK c = 3) (h : post (yB, yD, yn, yc, yo, yu, ya, yp, yr, yh, ye, ys, 9, rt, kd, na, nb, vK, vA, vB, eN, eV, eX, fN, fS, fE, fV)) : wpY_apply post (yB, yD, yn, yc, yo, yu, ya, yp, yr, yh, ye, ys, er, rt, kd, na, nb, vK, vA, vB, eN, eV, eX, fN, fS, fE, fV) (nI j) (nI c) r := by
  unfold wpY_apply
  exact y_kof hc (br_f hk h)
theorem y_a12 {post : SY → Prop} {r : Int32} (hc : c < 4096) (hk : vK c = 3) (h : post (nI B, yD, yn, yc, yo, nI B, ya, yp, yr, yh, ye, ys, 12, rt, kd, na, nb, vK, vA, vB, eN, eV, eX, fN, fS, fE, fV)) : wpY_apply post (nI B, yD, yn, yc, yo, nI B, ya, yp, yr, yh, ye, ys, er, rt, kd, na, nb, vK, vA, vB, eN, eV, eX, fN, fS, fE, fV) (nI j) (nI c) r := by
  unfold wpY_apply
  exact y_kof hc (br_t hk (br_t rfl h))
theorem y_a13 {post : SY → Prop} {r : Int32} (hc : c < 4096) (hk : vK c = 3) (hu : un < B) (hB : B ≤ 64) (h : post (nI B, nI D, yn, yc, yo, nI un, nI D, yp, yr, yh, ye, ys, 13, rt, kd, na, nb, vK, vA, vB, eN, eV, eX, fN, fS, fE, fV)) : wpY_apply post (nI B, nI D, yn, yc, yo, nI un, nI D, yp, yr, yh, ye, ys, er, rt, kd, na, nb, vK, vA, vB, eN, eV, eX, fN, fS, fE, fV) (nI j) (nI c) r := by
  unfold wpY_apply
  exact y_kof hc (br_t hk (br_f (fun e => by have := (nI_eq (by omega) (by omega)).mp e; omega) (br_t rfl h)))
def dm_pk (a : Nat) (pk : Int32) : Int32 := if nI (a + 1) ≤ pk then pk else nI (a + 1)
theorem y_a0f {post : SY → Prop} {r ev : Int32} {l y z : Nat} (hj : j < 512) (hj2 : j + 1 < 512) (hc : c < 4096) (hk : vK c = 3) (hu : un < B) (hB : B ≤ 64) (hd : a < D) (hD : D ≤ 8) (hl : l < 32) (qA : vA c = nI l) (qB : vB c = ev) (kl : ¬ kd l = 15) (ey : na l = nI y) (ez : kd l = 15 → nb l = nI z) (he : ep + 1 < 256) (h : post (nI B, nI D, yn, yc, yo, nI (un + 1), nI (a + 1), dm_pk a yp, yr, yh, nI (ep + 1), nI (j + 1 + 1), er, rt, kd, na, nb, vK, vA, vB, upd eN ep (nI y), upd eV ep r, upd eX ep ev, upd fN (j + 1) (nI (l + 1)), upd (upd fS j 3) (j + 1) 0, upd fE (j + 1) (nI ep), upd fV (j + 1) (-1))) : wpY_apply post (nI B, nI D, yn, yc, yo, nI un, nI a, yp, yr, yh, nI ep, nI (j + 1), er, rt, kd, na, nb, vK, vA, vB, eN, eV, eX, fN, fS, fE, fV) (nI j) (nI c) r := by
  have W : ∀ pk, pk = dm_pk a yp → wY_apply_91 post (nI j) (nI c) r (nI B) (nI D) yn yc yo (nI (un + 1)) (nI (a + 1)) pk yr yh (nI ep) (nI (j + 1)) er rt kd na nb vK vA vB eN eV eX fN fS fE fV := by
    rintro pk rfl
    unfold wY_apply_91
    refine y_vA hc (y_vB hc ?_)
    rw [qA, qB]
    refine br_f (nI_pos (by omega)) (br_t (nI_le (b := 32) (by omega) (by omega)) ⟨dm_v3 (by omega), ?_⟩)
    rw [nI_clamp (by omega)]
    refine br_f kl ⟨dm_v3 (by omega), ?_⟩
    rw [ey]
    refine y_bnd (by omega) ⟨dm_v5 hj, nm_r (dm_up (by omega)) ?_⟩
    rw [nI_1]
    exact y_push hj2 (by omega) h
  unfold wpY_apply
  refine y_kof hc (br_t hk (br_f (fun e => by have := (nI_eq (by omega) (by omega)).mp e; omega) (br_f (fun e => by have := (nI_eq (by omega) (by omega)).mp e; omega) (nm_r (nI_1 un) (nm_r (nI_1 a) ?_)))))
  by_cases e : nI (a + 1) ≤ yp
  · exact br_t e (W _ (if_pos e).symm)
  · exact br_f e (W _ (if_neg e).symm)
theorem y_a0r {post : SY → Prop} {r ev : Int32} {l y z : Nat} (hj : j < 512) (hj2 : j + 1 < 512) (hc : c < 4096) (hk : vK c = 3) (hu : un < B) (hB : B ≤ 64) (hd : a < D) (hD : D ≤ 8) (hl : l < 32) (qA : vA c = nI l) (qB : vB c = ev) (kl : kd l = 15) (ey : na l = nI y) (ez : kd l = 15 → nb l = nI z) (he : ep + 1 < 256) (h : post (nI B, nI D, yn, yc, yo, nI (un + 1), nI (a + 1), dm_pk a yp, yr, yh, nI (ep + 1 + 1), nI (j + 1 + 1), er, rt, kd, na, nb, vK, vA, vB, upd (upd eN ep (nI y)) (ep + 1) (nI z), upd (upd eV ep (nI c)) (ep + 1) r, upd (upd eX ep ev) (ep + 1) (nI ep), upd fN (j + 1) (nI (l + 1)), upd (upd fS j 3) (j + 1) 0, upd fE (j + 1) (nI (ep + 1)), upd fV (j + 1) (-1))) : wpY_apply post (nI B, nI D, yn, yc, yo, nI un, nI a, yp, yr, yh, nI ep, nI (j + 1), er, rt, kd, na, nb, vK, vA, vB, eN, eV, eX, fN, fS, fE, fV) (nI j) (nI c) r := by
  have W : ∀ pk, pk = dm_pk a yp → wY_apply_91 post (nI j) (nI c) r (nI B) (nI D) yn yc yo (nI (un + 1)) (nI (a + 1)) pk yr yh (nI ep) (nI (j + 1)) er rt kd na nb vK vA vB eN eV eX fN fS fE fV := by
    rintro pk rfl
    unfold wY_apply_91
    refine y_vA hc (y_vB hc ?_)
    rw [qA, qB]
    refine br_f (nI_pos (by omega)) (br_t (nI_le (b := 32) (by omega) (by omega)) ⟨dm_v3 (by omega), ?_⟩)
    rw [nI_clamp (by omega)]
    refine br_t kl ⟨dm_v3 (by omega), ?_⟩
    rw [ey]
    refine y_bnd (by omega) ⟨dm_v3 (by omega), ?_⟩
    rw [ez kl]
    refine y_bnd (by omega) ⟨dm_v5 hj, nm_r (dm_up (by omega)) ?_⟩
    rw [nI_1]
    exact y_push hj2 (by omega) h
  unfold wpY_apply
  refine y_kof hc (br_t hk (br_f (fun e => by have := (nI_eq (by omega) (by omega)).mp e; omega) (br_f (fun e => by have := (nI_eq (by omega) (by omega)).mp e; omega) (nm_r (nI_1 un) (nm_r (nI_1 a) ?_)))))
  by_cases e : nI (a + 1) ≤ yp
  · exact br_t e (W _ (if_pos e).symm)
  · exact br_f e (W _ (if_neg e).symm)
end
