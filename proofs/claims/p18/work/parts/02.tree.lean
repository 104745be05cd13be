/-! the tree in prefix order: open places, ends, children -/
def dm_ar (k : Int32) : Nat := if k = 1 ∨ k = 2 then 0 else if k = 9 then 3 else if k = 11 ∨ k = 12 ∨ k = 13 then 1 else 2
theorem dm_ar3 (k : Int32) : dm_ar k ≤ 3 := by
  unfold dm_ar
  split
  · omega
  · split
    · omega
    · split <;> omega
def dm_O (kd : Nat → Int32) : Nat → Nat
  | 0 => 1
  | k + 1 => dm_O kd k + dm_ar (kd k) - 1
theorem dm_O0 (kd : Nat → Int32) : dm_O kd 0 = 1 := rfl
theorem dm_Os (kd : Nat → Int32) (k : Nat) : dm_O kd (k + 1) = dm_O kd k + dm_ar (kd k) - 1 := rfl
theorem dm_O_c {kd kd' : Nat → Int32} : ∀ n, (∀ j, j < n → kd j = kd' j) → dm_O kd n = dm_O kd' n := by
  intro n
  induction n with
  | zero => intro _; rfl
  | succ n ih =>
    intro h
    rw [dm_Os, dm_Os, ih (fun j hj => h j (by omega)), h n (by omega)]
theorem dm_O_b (kd : Nat → Int32) : ∀ n, dm_O kd n ≤ 2 * n + 1 := by
  intro n
  induction n with
  | zero => exact Nat.le_refl _
  | succ n ih =>
    have := dm_Os kd n
    have := dm_ar3 (kd n)
    omega
def dm_Tr (kd : Nat → Int32) (n : Nat) : Prop := (∀ k, k < n → 1 ≤ dm_O kd k) ∧ dm_O kd n = 0
def dm_En (kd : Nat → Int32) (i e : Nat) : Prop := i < e ∧ dm_O kd e + 1 = dm_O kd i ∧ ∀ k, i ≤ k → k < e → dm_O kd i ≤ dm_O kd k
theorem dm_Tr_pos {kd : Nat → Int32} {n : Nat} (T : dm_Tr kd n) : 0 < n := by
  rcases Nat.eq_zero_or_pos n with z | z
  · subst z
    have := T.2
    have := dm_O0 kd
    omega
  · exact z
theorem dm_En_u {kd : Nat → Int32} {i e e' : Nat} (h : dm_En kd i e) (h' : dm_En kd i e') : e = e' := by
  obtain ⟨a, b, c⟩ := h
  obtain ⟨a', b', c'⟩ := h'
  rcases Nat.lt_trichotomy e e' with z | z | z
  · have := c' e (by omega) z
    omega
  · exact z
  · have := c e' (by omega) z
    omega
theorem dm_En_x {kd : Nat → Int32} {n i : Nat} (T : dm_Tr kd n) (hi : i < n) : ∃ e, e ≤ n ∧ dm_En kd i e := by
  have hn : dm_O kd n < dm_O kd i := by
    have := T.1 i hi
    have := T.2
    omega
  obtain ⟨e, h0, h3⟩ := pk_least (fun k => i < k ∧ dm_O kd k < dm_O kd i) ⟨n, hi, hn⟩
  have h1 : i < e := h0.1
  have h2 : dm_O kd e < dm_O kd i := h0.2
  have h4 : ∀ j, j < e → ¬ (i < j ∧ dm_O kd j < dm_O kd i) := h3
  have hm : ∀ k, i ≤ k → k < e → dm_O kd i ≤ dm_O kd k := by
    intro k hk he
    rcases Nat.eq_or_lt_of_le hk with z | z
    · subst z
      exact Nat.le_refl _
    · exact Nat.le_of_not_lt (fun w => h4 k he ⟨z, w⟩)
  have hen : e ≤ n := Nat.le_of_not_lt (fun w => h4 n w ⟨hi, hn⟩)
  refine ⟨e, hen, h1, ?_, hm⟩
  obtain ⟨d, rfl⟩ : ∃ d, e = d + 1 := ⟨e - 1, by omega⟩
  have a1 := hm d (by omega) (by omega)
  have a2 := T.1 d (by omega)
  have a3 := dm_Os kd d
  omega
noncomputable def dm_E (kd : Nat → Int32) (i : Nat) : Nat := Classical.epsilon (fun e => dm_En kd i e)
section
variable {kd : Nat → Int32} {n i j p c t v : Nat}
theorem dm_E_s (T : dm_Tr kd n) (hi : i < n) : dm_En kd i (dm_E kd i) ∧ dm_E kd i ≤ n := by
  obtain ⟨e, he, h⟩ := dm_En_x T hi
  have h2 : dm_En kd i (dm_E kd i) := Classical.epsilon_spec (p := fun e => dm_En kd i e) ⟨e, h⟩
  refine ⟨h2, ?_⟩
  rw [dm_En_u h2 h]
  exact he
theorem dm_E_gt (T : dm_Tr kd n) (hi : i < n) : i < dm_E kd i := (dm_E_s T hi).1.1
theorem dm_E_le (T : dm_Tr kd n) (hi : i < n) : dm_E kd i ≤ n := (dm_E_s T hi).2
theorem dm_E_0 (T : dm_Tr kd n) : dm_E kd 0 = n := by
  have hn := dm_Tr_pos T
  refine dm_En_u (dm_E_s T hn).1 ⟨hn, ?_, fun k _ hk => ?_⟩
  · rw [T.2, dm_O0]
  · rw [dm_O0]
    exact T.1 k hk
def dm_Sw (kd : Nat → Int32) (i p c : Nat) : Prop := i < p ∧ dm_O kd p + 1 = dm_O kd i + c ∧ ∀ k, i ≤ k → k < p → dm_O kd i ≤ dm_O kd k
theorem dm_Sw0 (T : dm_Tr kd n) (hi : i < n) : dm_Sw kd i (i + 1) (dm_ar (kd i)) := by
  have h1 := T.1 i hi
  have h2 := dm_Os kd i
  refine ⟨by omega, by omega, fun k h1 h2 => ?_⟩
  have : k = i := by omega
  subst this
  exact Nat.le_refl _
theorem dm_Sw_lt (T : dm_Tr kd n) (hi : i < n) (h : dm_Sw kd i p (c + 1)) (hp : p ≤ n) : p < n := by
  rcases Nat.eq_or_lt_of_le hp with z | z
  · subst z
    have h1 := T.1 i hi
    have h2 := T.2
    have h3 := h.2.1
    omega
  · exact z
theorem dm_Sws (T : dm_Tr kd n) (hi : i < n) (h : dm_Sw kd i p (c + 1)) (hp : p < n) : dm_Sw kd i (dm_E kd p) c := by
  obtain ⟨⟨a1, a2, a3⟩, a4⟩ := dm_E_s T hp
  obtain ⟨b1, b2, b3⟩ := h
  refine ⟨by omega, by omega, fun k h1 h2 => ?_⟩
  rcases Nat.lt_or_ge k p with z | z
  · exact b3 k h1 z
  · have := a3 k z h2
    omega
theorem dm_Sw_E (T : dm_Tr kd n) (hi : i < n) (h : dm_Sw kd i p 0) : dm_E kd i = p := by
  have h1 := h.2.1
  exact dm_En_u (dm_E_s T hi).1 ⟨h.1, by omega, h.2.2⟩
noncomputable def dm_ch (kd : Nat → Int32) (i : Nat) : Nat → Nat
  | 0 => i + 1
  | c + 1 => dm_E kd (dm_ch kd i c)
theorem dm_ch0 (kd : Nat → Int32) (i : Nat) : dm_ch kd i 0 = i + 1 := rfl
theorem dm_chs (kd : Nat → Int32) (i c : Nat) : dm_ch kd i (c + 1) = dm_E kd (dm_ch kd i c) := rfl
theorem dm_ch_s (T : dm_Tr kd n) (hi : i < n) : ∀ c, c ≤ dm_ar (kd i) → dm_Sw kd i (dm_ch kd i c) (dm_ar (kd i) - c) ∧ dm_ch kd i c ≤ n := by
  intro c
  induction c with
  | zero =>
    intro _
    exact ⟨dm_Sw0 T hi, hi⟩
  | succ c ih =>
    intro hc
    obtain ⟨h1, h2⟩ := ih (by omega)
    have e : dm_ar (kd i) - c = (dm_ar (kd i) - (c + 1)) + 1 := by omega
    rw [e] at h1
    have h3 := dm_Sw_lt T hi h1 h2
    exact ⟨dm_Sws T hi h1 h3, (dm_E_s T h3).2⟩
theorem dm_ch_lt (T : dm_Tr kd n) (hi : i < n) (hc : c < dm_ar (kd i)) : dm_ch kd i c < n := by
  obtain ⟨h1, h2⟩ := dm_ch_s T hi c (by omega)
  have e : dm_ar (kd i) - c = (dm_ar (kd i) - (c + 1)) + 1 := by omega
  rw [e] at h1
  exact dm_Sw_lt T hi h1 h2
theorem dm_ch_gt (T : dm_Tr kd n) (hi : i < n) (hc : c ≤ dm_ar (kd i)) : i < dm_ch kd i c := (dm_ch_s T hi c hc).1.1
theorem dm_ch_E (T : dm_Tr kd n) (hi : i < n) : dm_E kd i = dm_ch kd i (dm_ar (kd i)) := by
  have h := (dm_ch_s T hi _ (Nat.le_refl _)).1
  rw [Nat.sub_self] at h
  exact dm_Sw_E T hi h
theorem dm_E_nest (T : dm_Tr kd n) (hi : i < n) (h1 : i ≤ j) (h2 : j < dm_E kd i) : dm_E kd j ≤ dm_E kd i := by
  have h3 := dm_E_le T hi
  have hj : j < n := by omega
  obtain ⟨⟨a1, a2, a3⟩, _⟩ := dm_E_s T hi
  obtain ⟨⟨b1, b2, b3⟩, _⟩ := dm_E_s T hj
  apply Nat.le_of_not_lt
  intro z
  have c1 := a3 j h1 h2
  have c2 := b3 (dm_E kd i) (by omega) z
  omega
theorem dm_ch_mono (T : dm_Tr kd n) (hi : i < n) : ∀ d c, c < d → d ≤ dm_ar (kd i) → dm_E kd (dm_ch kd i c) ≤ dm_ch kd i d := by
  intro d
  induction d with
  | zero => intro c h; omega
  | succ d ih =>
    intro c h1 h2
    rcases Nat.lt_or_ge c d with z | z
    · have a1 := ih c z (by omega)
      have a2 := dm_E_gt T (dm_ch_lt T hi (c := d) (by omega))
      rw [dm_chs]
      omega
    · have : c = d := by omega
      subst this
      exact Nat.le_refl _
theorem dm_ch_cov (T : dm_Tr kd n) (hi : i < n) : ∀ d, d ≤ dm_ar (kd i) → ∀ j, i < j → j < dm_ch kd i d → ∃ c, c < d ∧ dm_ch kd i c ≤ j ∧ j < dm_E kd (dm_ch kd i c) := by
  intro d
  induction d with
  | zero =>
    intro _ j h1 h2
    rw [dm_ch0] at h2
    omega
  | succ d ih =>
    intro hd j h1 h2
    rcases Nat.lt_or_ge j (dm_ch kd i d) with z | z
    · obtain ⟨c, g1, g2, g3⟩ := ih (by omega) j h1 z
      exact ⟨c, by omega, g2, g3⟩
    · exact ⟨d, by omega, z, h2⟩
theorem dm_cov (T : dm_Tr kd n) (hi : i < n) (h1 : i < j) (h2 : j < dm_E kd i) : ∃ c, c < dm_ar (kd i) ∧ dm_ch kd i c ≤ j ∧ j < dm_E kd (dm_ch kd i c) := by
  rw [dm_ch_E T hi] at h2
  exact dm_ch_cov T hi _ (Nat.le_refl _) j h1 h2
theorem dm_disj {d : Nat} (T : dm_Tr kd n) (hi : i < n) (hc : c < dm_ar (kd i)) (hd : d < dm_ar (kd i)) (h1 : dm_ch kd i c ≤ j) (h2 : j < dm_E kd (dm_ch kd i c)) (h3 : dm_ch kd i d ≤ j) (h4 : j < dm_E kd (dm_ch kd i d)) : c = d := by
  rcases Nat.lt_trichotomy c d with z | z | z
  · have := dm_ch_mono T hi d c z (by omega)
    omega
  · exact z
  · have := dm_ch_mono T hi c d z (by omega)
    omega
theorem dm_ch_in (T : dm_Tr kd n) (hi : i < n) (hc : c < dm_ar (kd i)) : dm_E kd (dm_ch kd i c) ≤ dm_E kd i := by
  rw [dm_ch_E T hi]
  exact dm_ch_mono T hi _ c hc (Nat.le_refl _)
def dm_Pa (kd : Nat → Int32) (p j : Nat) : Prop := p < j ∧ j < dm_E kd p ∧ ∀ q, p < q → q < j → dm_E kd q ≤ j
theorem dm_Pa_ch (T : dm_Tr kd n) (hj : j < n) (h : dm_Pa kd p j) : ∃ c, c < dm_ar (kd p) ∧ j = dm_ch kd p c := by
  have hp : p < n := by
    have := h.1
    omega
  obtain ⟨c, hc, h1, h2⟩ := dm_cov T hp h.1 h.2.1
  refine ⟨c, hc, ?_⟩
  rcases Nat.eq_or_lt_of_le h1 with z | z
  · exact z.symm
  · have := h.2.2 (dm_ch kd p c) (dm_ch_gt T hp (by omega)) z
    omega
theorem dm_ch_inj {d : Nat} (T : dm_Tr kd n) (hi : i < n) (hc : c < dm_ar (kd i)) (hd : d < dm_ar (kd i)) (h : dm_ch kd i c = dm_ch kd i d) : c = d := by
  have h1 := dm_E_gt T (dm_ch_lt T hi hc)
  exact dm_disj T hi hc hd (j := dm_ch kd i c) (Nat.le_refl _) h1 (by omega) (by rw [← h]; exact h1)
/-- name x is bound at the child c of p -/
def dm_bd (kd na nb : Nat → Int32) (p c : Nat) (x : Int32) : Prop := (kd p = 13 ∧ c = 0 ∧ na p = x) ∨ (kd p = 14 ∧ c = 1 ∧ na p = x) ∨ (kd p = 15 ∧ ((c = 0 ∧ (na p = x ∨ nb p = x)) ∨ (c = 1 ∧ na p = x)))
/-- no node from t down to v binds x on the way to v -/
def dm_UB (kd na nb : Nat → Int32) (n v t : Nat) (x : Int32) : Prop := ∀ p c, t ≤ p → p < n → c < dm_ar (kd p) → dm_ch kd p c ≤ v → v < dm_E kd (dm_ch kd p c) → ¬ dm_bd kd na nb p c x
theorem dm_UB_v {na nb : Nat → Int32} {x : Int32} (T : dm_Tr kd n) : dm_UB kd na nb n v v x := by
  intro p c h1 h2 h3 h4 _ _
  have := dm_ch_gt T h2 (Nat.le_of_lt h3)
  omega
theorem dm_UB_up {na nb : Nat → Int32} {x : Int32} (T : dm_Tr kd n) (ht : t < n) (hc : c < dm_ar (kd t)) (h1 : dm_ch kd t c ≤ v) (h2 : v < dm_E kd (dm_ch kd t c)) (h : dm_UB kd na nb n v (dm_ch kd t c) x) (hb : ¬ dm_bd kd na nb t c x) : dm_UB kd na nb n v t x := by
  intro p d hp hpn hd h3 h4
  rcases Nat.eq_or_lt_of_le hp with z | z
  · subst z
    have := dm_disj T ht hc hd h1 h2 h3 h4
    subst this
    exact hb
  · rcases Nat.lt_or_ge p (dm_ch kd t c) with w | w
    · exfalso
      obtain ⟨c', hc', g1, g2⟩ := dm_ch_cov T ht c (by omega) p z w
      have hcl : dm_ch kd t c' < n := dm_ch_lt T ht (by omega)
      have e1 := dm_E_nest T hcl g1 g2
      have e2 := dm_ch_mono T ht c c' hc' (by omega)
      have e3 := dm_ch_in T hpn hd
      omega
    · exact h p d w hpn hd h3 h4
theorem dm_UB_dn {na nb : Nat → Int32} {x : Int32} (T : dm_Tr kd n) (ht : t < n) (hc : c < dm_ar (kd t)) (h1 : dm_ch kd t c ≤ v) (h2 : v < dm_E kd (dm_ch kd t c)) (h : dm_UB kd na nb n v t x) : dm_UB kd na nb n v (dm_ch kd t c) x ∧ ¬ dm_bd kd na nb t c x := by
  refine ⟨fun p d hp => h p d ?_, h t c (Nat.le_refl _) ht hc h1 h2⟩
  have := dm_ch_gt T ht (Nat.le_of_lt hc)
  omega
/-- the masks of free names -/
def dm_FN (kd na nb : Nat → Int32) (n : Nat) (f : Nat → Int32) : Prop := ∀ i, i < n → ∀ x, x < 32 → (bt (f i) x = true ↔ ((kd i = 2 ∧ na i = nI x) ∨ ∃ c, c < dm_ar (kd i) ∧ bt (f (dm_ch kd i c)) x = true ∧ ¬ dm_bd kd na nb i c (nI x)))
theorem dm_FN_UB {na nb f : Nat → Int32} (T : dm_Tr kd n) (F : dm_FN kd na nb n f) : ∀ d t, t < n → n - t ≤ d → ∀ x, x < 32 → (bt (f t) x = true ↔ ∃ v, t ≤ v ∧ v < dm_E kd t ∧ kd v = 2 ∧ na v = nI x ∧ dm_UB kd na nb n v t (nI x)) := by
  intro d
  induction d with
  | zero => intro t h1 h2; omega
  | succ d ih =>
    intro t ht hd x hx
    rw [F t ht x hx]
    constructor
    · rintro (⟨h1, h2⟩ | ⟨c, hc, h1, h2⟩)
      · exact ⟨t, Nat.le_refl _, dm_E_gt T ht, h1, h2, dm_UB_v T⟩
      · have hcl := dm_ch_lt T ht hc
        have hcg := dm_ch_gt T ht (Nat.le_of_lt hc)
        obtain ⟨v, v1, v2, v3, v4, v5⟩ := (ih (dm_ch kd t c) hcl (by omega) x hx).mp h1
        have hin := dm_ch_in T ht hc
        exact ⟨v, by omega, by omega, v3, v4, dm_UB_up T ht hc v1 v2 v5 h2⟩
    · rintro ⟨v, v1, v2, v3, v4, v5⟩
      rcases Nat.eq_or_lt_of_le v1 with z | z
      · subst z
        exact Or.inl ⟨v3, v4⟩
      · obtain ⟨c, hc, g1, g2⟩ := dm_cov T ht z v2
        obtain ⟨u1, u2⟩ := dm_UB_dn T ht hc g1 g2 v5
        have hcl := dm_ch_lt T ht hc
        have hcg := dm_ch_gt T ht (Nat.le_of_lt hc)
        exact Or.inr ⟨c, hc, (ih (dm_ch kd t c) hcl (by omega) x hx).mpr ⟨v, g1, g2, v3, v4, u1⟩, u2⟩
theorem dm_FN_iff {na nb f : Nat → Int32} (T : dm_Tr kd n) (F : dm_FN kd na nb n f) {x : Nat} (ht : t < n) (hx : x < 32) : bt (f t) x = true ↔ ∃ v, t ≤ v ∧ v < dm_E kd t ∧ kd v = 2 ∧ na v = nI x ∧ dm_UB kd na nb n v t (nI x) := dm_FN_UB T F (n - t) t ht (Nat.le_refl _) x hx
end
/-! tags: how many lambdas stand before a node -/
def dm_cnt (kd : Nat → Int32) : Nat → Nat
  | 0 => 0
  | k + 1 => if kd k = 13 ∨ kd k = 15 then dm_cnt kd k + 1 else dm_cnt kd k
theorem dm_cnt_t {kd : Nat → Int32} {k : Nat} (h : kd k = 13 ∨ kd k = 15) : dm_cnt kd (k + 1) = dm_cnt kd k + 1 := if_pos h
theorem dm_cnt_f {kd : Nat → Int32} {k : Nat} (h : ¬ (kd k = 13 ∨ kd k = 15)) : dm_cnt kd (k + 1) = dm_cnt kd k := if_neg h
theorem dm_cnt_s (kd : Nat → Int32) (k : Nat) : dm_cnt kd k ≤ dm_cnt kd (k + 1) ∧ dm_cnt kd (k + 1) ≤ dm_cnt kd k + 1 := by
  by_cases h : kd k = 13 ∨ kd k = 15
  · rw [dm_cnt_t h]
    omega
  · rw [dm_cnt_f h]
    omega
theorem dm_cnt_le (kd : Nat → Int32) : ∀ k, dm_cnt kd k ≤ k := by
  intro k
  induction k with
  | zero => exact Nat.le_refl _
  | succ k ih =>
    have := dm_cnt_s kd k
    omega
theorem dm_cnt_mono (kd : Nat → Int32) (i : Nat) : ∀ d, dm_cnt kd i ≤ dm_cnt kd (i + d) := by
  intro d
  induction d with
  | zero => exact Nat.le_refl _
  | succ d ih =>
    have := dm_cnt_s kd (i + d)
    have e : i + (d + 1) = (i + d) + 1 := by omega
    rw [e]
    omega
theorem dm_cnt_m {kd : Nat → Int32} {i j : Nat} (h : i ≤ j) : dm_cnt kd i ≤ dm_cnt kd j := by
  obtain ⟨d, rfl⟩ : ∃ d, j = i + d := ⟨j - i, by omega⟩
  exact dm_cnt_mono kd i d
theorem dm_cnt_lt {kd : Nat → Int32} {i j : Nat} (h : i < j) (hl : kd i = 13 ∨ kd i = 15) : dm_cnt kd i < dm_cnt kd j := by
  have h1 := dm_cnt_m (kd := kd) (show i + 1 ≤ j from h)
  rw [dm_cnt_t hl] at h1
  omega
theorem dm_cnt_ex {kd : Nat → Int32} : ∀ n t, t < dm_cnt kd n → ∃ i, i < n ∧ (kd i = 13 ∨ kd i = 15) ∧ dm_cnt kd i = t := by
  intro n
  induction n with
  | zero =>
    intro t h
    exact absurd h (Nat.not_lt_zero t)
  | succ n ih =>
    intro t h
    by_cases hl : kd n = 13 ∨ kd n = 15
    · rw [dm_cnt_t hl] at h
      rcases Nat.eq_or_lt_of_le (show t ≤ dm_cnt kd n by omega) with z | z
      · exact ⟨n, by omega, hl, z.symm⟩
      · obtain ⟨i, h1, h2⟩ := ih t z
        exact ⟨i, by omega, h2⟩
    · rw [dm_cnt_f hl] at h
      obtain ⟨i, h1, h2⟩ := ih t h
      exact ⟨i, by omega, h2⟩
