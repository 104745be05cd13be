section
def bt (x : Int32) (i : Nat) : Bool := x.toBitVec.getLsbD i
theorem b_ext {x y : Int32} (h : ∀ i, i < 32 → bt x i = bt y i) : x = y := Int32.toBitVec_inj.mp (BitVec.eq_of_getLsbD_eq (fun i hi => h i hi))
theorem b_or (x y : Int32) (i : Nat) : bt (x ||| y) i = (bt x i || bt y i) := by unfold bt; rw [Int32.toBitVec_or, BitVec.getLsbD_or]
theorem b_and (x y : Int32) (i : Nat) : bt (x &&& y) i = (bt x i && bt y i) := by unfold bt; rw [Int32.toBitVec_and, BitVec.getLsbD_and]
theorem b_xor (x y : Int32) (i : Nat) : bt (x ^^^ y) i = (bt x i ^^ bt y i) := by unfold bt; rw [Int32.toBitVec_xor, BitVec.getLsbD_xor]
theorem b_big {x : Int32} {i : Nat} (h : 32 ≤ i) : bt x i = false := BitVec.getLsbD_of_ge _ _ h
theorem b_255 (i : Nat) : bt 255 i = decide (i < 8) := by
  rcases Nat.lt_or_ge i 32 with h | h
  · exact (by decide +kernel : ∀ i, i < 32 → bt 255 i = decide (i < 8)) i h
  · rw [b_big h, decide_eq_false (by omega)]
theorem b_65535 (i : Nat) : bt 65535 i = decide (i < 16) := by
  rcases Nat.lt_or_ge i 32 with h | h
  · exact (by decide +kernel : ∀ i, i < 32 → bt 65535 i = decide (i < 16)) i h
  · rw [b_big h, decide_eq_false (by omega)]
theorem b_m1 : ∀ i, i < 32 → bt (-1) i = true := by decide +kernel
theorem b_0 (i : Nat) : bt 0 i = false := BitVec.getLsbD_zero
theorem s_l : ∀ n, n < 32 → ((nI n &&& 31).toBitVec.smod 32).toNat = n := by decide +kernel
theorem s_u : ∀ n, n < 32 → (((nI n).toUInt32 &&& Int32.toUInt32 31).toBitVec % 32).toNat = n := by decide +kernel
theorem b_shl (n : Nat) (hn : n < 32) (x : Int32) {i : Nat} (hi : i < 32) : bt (x <<< (nI n &&& 31)) i = (decide (n ≤ i) && bt x (i - n)) := by
  unfold bt
  rw [Int32.toBitVec_shiftLeft]
  show (x.toBitVec <<< ((nI n &&& 31).toBitVec.smod 32).toNat).getLsbD i = _
  rw [s_l n hn, BitVec.getLsbD_shiftLeft]
  rcases Nat.lt_or_ge i n with h | h
  · simp [h, Nat.not_le.mpr h]
  · simp [hi, h, Nat.not_lt.mpr h]
theorem b_ushr (n : Nat) (hn : n < 32) (x : Int32) (i : Nat) : bt ((x.toUInt32 >>> ((nI n).toUInt32 &&& Int32.toUInt32 31)).toInt32) i = bt x (n + i) := by
  show (x.toUInt32 >>> ((nI n).toUInt32 &&& Int32.toUInt32 31)).toBitVec.getLsbD i = x.toUInt32.toBitVec.getLsbD (n + i)
  rw [UInt32.toBitVec_shiftRight]
  show (x.toUInt32.toBitVec >>> (((nI n).toUInt32 &&& Int32.toUInt32 31).toBitVec % 32).toNat).getLsbD i = _
  rw [s_u n hn, BitVec.getLsbD_ushiftRight]
theorem b_sshr (n : Nat) (hn : n < 32) (x : Int32) {i : Nat} (hi : i < 32) : bt (x >>> (nI n &&& 31)) i = if n + i < 32 then bt x (n + i) else bt x 31 := by
  unfold bt
  rw [Int32.toBitVec_shiftRight]
  show (x.toBitVec.sshiftRight ((nI n &&& 31).toBitVec.smod 32).toNat).getLsbD i = _
  rw [s_l n hn, BitVec.getLsbD_sshiftRight, BitVec.msb_eq_getLsbD_last]
  simp [hi]
theorem b_shl8 (x : Int32) {i : Nat} (hi : i < 32) : bt (x <<< ((8 : Int32) &&& 31)) i = (decide (8 ≤ i) && bt x (i - 8)) := b_shl 8 (by omega) x hi
theorem b_shl16 (x : Int32) {i : Nat} (hi : i < 32) : bt (x <<< ((16 : Int32) &&& 31)) i = (decide (16 ≤ i) && bt x (i - 16)) := b_shl 16 (by omega) x hi
theorem b_shl24 (x : Int32) {i : Nat} (hi : i < 32) : bt (x <<< ((24 : Int32) &&& 31)) i = (decide (24 ≤ i) && bt x (i - 24)) := b_shl 24 (by omega) x hi
theorem b_sshr8 (x : Int32) {i : Nat} (hi : i < 32) : bt (x >>> ((8 : Int32) &&& 31)) i = if 8 + i < 32 then bt x (8 + i) else bt x 31 := b_sshr 8 (by omega) x hi
end
section
/-! the tree in prefix order: open places, ends, children -/
def dm_ar (k : Int32) : Nat := if k = 1 ∨ k = 2 then 0 else if k = 9 then 3 else if k = 11 ∨ k = 12 ∨ k = 13 then 1 else 2
theorem dm_ar3 (k : Int32) : dm_ar k ≤ 3 := by
  unfold dm_ar
  split
  · omega
  · split
    · omega
    · split <;> omega
def dm_O (kd : Nat → Int32) : Nat → Nat
  | 0 => 1
  | k + 1 => dm_O kd k + dm_ar (kd k) - 1
theorem dm_O0 (kd : Nat → Int32) : dm_O kd 0 = 1 := rfl
theorem dm_Os (kd : Nat → Int32) (k : Nat) : dm_O kd (k + 1) = dm_O kd k + dm_ar (kd k) - 1 := rfl
theorem dm_O_c {kd kd' : Nat → Int32} : ∀ n, (∀ j, j < n → kd j = kd' j) → dm_O kd n = dm_O kd' n := by
  intro n
  induction n with
  | zero => intro _; rfl
  | succ n ih =>
    intro h
    rw [dm_Os, dm_Os, ih (fun j hj => h j (by omega)), h n (by omega)]
theorem dm_O_b (kd : Nat → Int32) : ∀ n, dm_O kd n ≤ 2 * n + 1 := by
  intro n
  induction n with
  | zero => exact Nat.le_refl _
  | succ n ih =>
    have := dm_Os kd n
    have := dm_ar3 (kd n)
    omega
def dm_Tr (kd : Nat → Int32) (n : Nat) : Prop := (∀ k, k < n → 1 ≤ dm_O kd k) ∧ dm_O kd n = 0
def dm_En (kd : Nat → Int32) (i e : Nat) : Prop := i < e ∧ dm_O kd e + 1 = dm_O kd i ∧ ∀ k, i ≤ k → k < e → dm_O kd i ≤ dm_O kd k
theorem dm_Tr_pos {kd : Nat → Int32} {n : Nat} (T : dm_Tr kd n) : 0 < n := by
  rcases Nat.eq_zero_or_pos n with z | z
  · subst z
    have := T.2
    have := dm_O0 kd
    omega
  · exact z
theorem dm_En_u {kd : Nat → Int32} {i e e' : Nat} (h : dm_En kd i e) (h' : dm_En kd i e') : e = e' := by
  obtain ⟨a, b, c⟩ := h
  obtain ⟨a', b', c'⟩ := h'
  rcases Nat.lt_trichotomy e e' with z | z | z
  · have := c' e (by omega) z
    omega
  · exact z
  · have := c e' (by omega) z
    omega
theorem dm_En_x {kd : Nat → Int32} {n i : Nat} (T : dm_Tr kd n) (hi : i < n) : ∃ e, e ≤ n ∧ dm_En kd i e := by
  have hn : dm_O kd n < dm_O kd i := by
    have := T.1 i hi
    have := T.2
    omega
  obtain ⟨e, h0, h3⟩ := pk_least (fun k => i < k ∧ dm_O kd k < dm_O kd i) ⟨n, hi, hn⟩
  have h1 : i < e := h0.1
  have h2 : dm_O kd e < dm_O kd i := h0.2
  have h4 : ∀ j, j < e → ¬ (i < j ∧ dm_O kd j < dm_O kd i) := h3
  have hm : ∀ k, i ≤ k → k < e → dm_O kd i ≤ dm_O kd k := by
    intro k hk he
    rcases Nat.eq_or_lt_of_le hk with z | z
    · subst z
      exact Nat.le_refl _
    · exact Nat.le_of_not_lt (fun w => h4 k he ⟨z, w⟩)
  have hen : e ≤ n := Nat.le_of_not_lt (fun w => h4 n w ⟨hi, hn⟩)
  refine ⟨e, hen, h1, ?_, hm⟩
  obtain ⟨d, rfl⟩ : ∃ d, e = d + 1 := ⟨e - 1, by omega⟩
  have a1 := hm d (by omega) (by omega)
  have a2 := T.1 d (by omega)
  have a3 := dm_Os kd d
  omega
noncomputable def dm_E (kd : Nat → Int32) (i : Nat) : Nat := Classical.epsilon (fun e => dm_En kd i e)
section
variable {kd : Nat → Int32} {n i j p c t v : Nat}
theorem dm_E_s (T : dm_Tr kd n) (hi : i < n) : dm_En kd i (dm_E kd i) ∧ dm_E kd i ≤ n := by
  obtain ⟨e, he, h⟩ := dm_En_x T hi
  have h2 : dm_En kd i (dm_E kd i) := Classical.epsilon_spec (p := fun e => dm_En kd i e) ⟨e, h⟩
  refine ⟨h2, ?_⟩
  rw [dm_En_u h2 h]
  exact he
theorem dm_E_gt (T : dm_Tr kd n) (hi : i < n) : i < dm_E kd i := (dm_E_s T hi).1.1
theorem dm_E_le (T : dm_Tr kd n) (hi : i < n) : dm_E kd i ≤ n := (dm_E_s T hi).2
theorem dm_E_0 (T : dm_Tr kd n) : dm_E kd 0 = n := by
  have hn := dm_Tr_pos T
  refine dm_En_u (dm_E_s T hn).1 ⟨hn, ?_, fun k _ hk => ?_⟩
  · rw [T.2, dm_O0]
  · rw [dm_O0]
    exact T.1 k hk
def dm_Sw (kd : Nat → Int32) (i p c : Nat) : Prop := i < p ∧ dm_O kd p + 1 = dm_O kd i + c ∧ ∀ k, i ≤ k → k < p → dm_O kd i ≤ dm_O kd k
theorem dm_Sw0 (T : dm_Tr kd n) (hi : i < n) : dm_Sw kd i (i + 1) (dm_ar (kd i)) := by
  have h1 := T.1 i hi
  have h2 := dm_Os kd i
  refine ⟨by omega, by omega, fun k h1 h2 => ?_⟩
  have : k = i := by omega
  subst this
  exact Nat.le_refl _
theorem dm_Sw_lt (T : dm_Tr kd n) (hi : i < n) (h : dm_Sw kd i p (c + 1)) (hp : p ≤ n) : p < n := by
  rcases Nat.eq_or_lt_of_le hp with z | z
  · subst z
    have h1 := T.1 i hi
    have h2 := T.2
    have h3 := h.2.1
    omega
  · exact z
theorem dm_Sws (T : dm_Tr kd n) (hi : i < n) (h : dm_Sw kd i p (c + 1)) (hp : p < n) : dm_Sw kd i (dm_E kd p) c := by
  obtain ⟨⟨a1, a2, a3⟩, a4⟩ := dm_E_s T hp
  obtain ⟨b1, b2, b3⟩ := h
  refine ⟨by omega, by omega, fun k h1 h2 => ?_⟩
  rcases Nat.lt_or_ge k p with z | z
  · exact b3 k h1 z
  · have := a3 k z h2
    omega
theorem dm_Sw_E (T : dm_Tr kd n) (hi : i < n) (h : dm_Sw kd i p 0) : dm_E kd i = p := by
  have h1 := h.2.1
  exact dm_En_u (dm_E_s T hi).1 ⟨h.1, by omega, h.2.2⟩
noncomputable def dm_ch (kd : Nat → Int32) (i : Nat) : Nat → Nat
  | 0 => i + 1
  | c + 1 => dm_E kd (dm_ch kd i c)
theorem dm_ch0 (kd : Nat → Int32) (i : Nat) : dm_ch kd i 0 = i + 1 := rfl
theorem dm_chs (kd : Nat → Int32) (i c : Nat) : dm_ch kd i (c + 1) = dm_E kd (dm_ch kd i c) := rfl
theorem dm_ch_s (T : dm_Tr kd n) (hi : i < n) : ∀ c, c ≤ dm_ar (kd i) → dm_Sw kd i (dm_ch kd i c) (dm_ar (kd i) - c) ∧ dm_ch kd i c ≤ n := by
  intro c
  induction c with
  | zero =>
    intro _
    exact ⟨dm_Sw0 T hi, hi⟩
  | succ c ih =>
    intro hc
    obtain ⟨h1, h2⟩ := ih (by omega)
    have e : dm_ar (kd i) - c = (dm_ar (kd i) - (c + 1)) + 1 := by omega
    rw [e] at h1
    have h3 := dm_Sw_lt T hi h1 h2
    exact ⟨dm_Sws T hi h1 h3, (dm_E_s T h3).2⟩
theorem dm_ch_lt (T : dm_Tr kd n) (hi : i < n) (hc : c < dm_ar (kd i)) : dm_ch kd i c < n := by
  obtain ⟨h1, h2⟩ := dm_ch_s T hi c (by omega)
  have e : dm_ar (kd i) - c = (dm_ar (kd i) - (c + 1)) + 1 := by omega
  rw [e] at h1
  exact dm_Sw_lt T hi h1 h2
theorem dm_ch_gt (T : dm_Tr kd n) (hi : i < n) (hc : c ≤ dm_ar (kd i)) : i < dm_ch kd i c := (dm_ch_s T hi c hc).1.1
theorem dm_ch_E (T : dm_Tr kd n) (hi : i < n) : dm_E kd i = dm_ch kd i (dm_ar (kd i)) := by
  have h := (dm_ch_s T hi _ (Nat.le_refl _)).1
  rw [Nat.sub_self] at h
  exact dm_Sw_E T hi h
theorem dm_E_nest (T : dm_Tr kd n) (hi : i < n) (h1 : i ≤ j) (h2 : j < dm_E kd i) : dm_E kd j ≤ dm_E kd i := by
  have h3 := dm_E_le T hi
  have hj : j < n := by omega
  obtain ⟨⟨a1, a2, a3⟩, _⟩ := dm_E_s T hi
  obtain ⟨⟨b1, b2, b3⟩, _⟩ := dm_E_s T hj
  apply Nat.le_of_not_lt
  intro z
  have c1 := a3 j h1 h2
  have c2 := b3 (dm_E kd i) (by omega) z
  omega
theorem dm_ch_mono (T : dm_Tr kd n) (hi : i < n) : ∀ d c, c < d → d ≤ dm_ar (kd i) → dm_E kd (dm_ch kd i c) ≤ dm_ch kd i d := by
  intro d
  induction d with
  | zero => intro c h; omega
  | succ d ih =>
    intro c h1 h2
    rcases Nat.lt_or_ge c d with z | z
    · have a1 := ih c z (by omega)
      have a2 := dm_E_gt T (dm_ch_lt T hi (c := d) (by omega))
      rw [dm_chs]
      omega
    · have : c = d := by omega
      subst this
      exact Nat.le_refl _
theorem dm_ch_cov (T : dm_Tr kd n) (hi : i < n) : ∀ d, d ≤ dm_ar (kd i) → ∀ j, i < j → j < dm_ch kd i d → ∃ c, c < d ∧ dm_ch kd i c ≤ j ∧ j < dm_E kd (dm_ch kd i c) := by
  intro d
  induction d with
  | zero =>
    intro _ j h1 h2
    rw [dm_ch0] at h2
    omega
  | succ d ih =>
    intro hd j h1 h2
    rcases Nat.lt_or_ge j (dm_ch kd i d) with z | z
    · obtain ⟨c, g1, g2, g3⟩ := ih (by omega) j h1 z
      exact ⟨c, by omega, g2, g3⟩
    · exact ⟨d, by omega, z, h2⟩
theorem dm_cov (T : dm_Tr kd n) (hi : i < n) (h1 : i < j) (h2 : j < dm_E kd i) : ∃ c, c < dm_ar (kd i) ∧ dm_ch kd i c ≤ j ∧ j < dm_E kd (dm_ch kd i c) := by
  rw [dm_ch_E T hi] at h2
  exact dm_ch_cov T hi _ (Nat.le_refl _) j h1 h2
theorem dm_disj {d : Nat} (T : dm_Tr kd n) (hi : i < n) (hc : c < dm_ar (kd i)) (hd : d < dm_ar (kd i)) (h1 : dm_ch kd i c ≤ j) (h2 : j < dm_E kd (dm_ch kd i c)) (h3 : dm_ch kd i d ≤ j) (h4 : j < dm_E kd (dm_ch kd i d)) : c = d := by
  rcases Nat.lt_trichotomy c d with z | z | z
  · have := dm_ch_mono T hi d c z (by omega)
    omega
  · exact z
  · have := dm_ch_mono T hi c d z (by omega)
    omega
theorem dm_ch_in (T : dm_Tr kd n) (hi : i < n) (hc : c < dm_ar (kd i)) : dm_E kd (dm_ch kd i c) ≤ dm_E kd i := by
  rw [dm_ch_E T hi]
  exact dm_ch_mono T hi _ c hc (Nat.le_refl _)
def dm_Pa (kd : Nat → Int32) (p j : Nat) : Prop := p < j ∧ j < dm_E kd p ∧ ∀ q, p < q → q < j → dm_E kd q ≤ j
theorem dm_Pa_ch (T : dm_Tr kd n) (hj : j < n) (h : dm_Pa kd p j) : ∃ c, c < dm_ar (kd p) ∧ j = dm_ch kd p c := by
  have hp : p < n := by
    have := h.1
    omega
  obtain ⟨c, hc, h1, h2⟩ := dm_cov T hp h.1 h.2.1
  refine ⟨c, hc, ?_⟩
  rcases Nat.eq_or_lt_of_le h1 with z | z
  · exact z.symm
  · have := h.2.2 (dm_ch kd p c) (dm_ch_gt T hp (by omega)) z
    omega
theorem dm_ch_inj {d : Nat} (T : dm_Tr kd n) (hi : i < n) (hc : c < dm_ar (kd i)) (hd : d < dm_ar (kd i)) (h : dm_ch kd i c = dm_ch kd i d) : c = d := by
  have h1 := dm_E_gt T (dm_ch_lt T hi hc)
  exact dm_disj T hi hc hd (j := dm_ch kd i c) (Nat.le_refl _) h1 (by omega) (by rw [← h]; exact h1)
/-- name x is bound at the child c of p -/
def dm_bd (kd na nb : Nat → Int32) (p c : Nat) (x : Int32) : Prop := (kd p = 13 ∧ c = 0 ∧ na p = x) ∨ (kd p = 14 ∧ c = 1 ∧ na p = x) ∨ (kd p = 15 ∧ ((c = 0 ∧ (na p = x ∨ nb p = x)) ∨ (c = 1 ∧ na p = x)))
/-- no node from t down to v binds x on the way to v -/
def dm_UB (kd na nb : Nat → Int32) (n v t : Nat) (x : Int32) : Prop := ∀ p c, t ≤ p → p < n → c < dm_ar (kd p) → dm_ch kd p c ≤ v → v < dm_E kd (dm_ch kd p c) → ¬ dm_bd kd na nb p c x
theorem dm_UB_v {na nb : Nat → Int32} {x : Int32} (T : dm_Tr kd n) : dm_UB kd na nb n v v x := by
  intro p c h1 h2 h3 h4 _ _
  have := dm_ch_gt T h2 (Nat.le_of_lt h3)
  omega
theorem dm_UB_up {na nb : Nat → Int32} {x : Int32} (T : dm_Tr kd n) (ht : t < n) (hc : c < dm_ar (kd t)) (h1 : dm_ch kd t c ≤ v) (h2 : v < dm_E kd (dm_ch kd t c)) (h : dm_UB kd na nb n v (dm_ch kd t c) x) (hb : ¬ dm_bd kd na nb t c x) : dm_UB kd na nb n v t x := by
  intro p d hp hpn hd h3 h4
  rcases Nat.eq_or_lt_of_le hp with z | z
  · subst z
    have := dm_disj T ht hc hd h1 h2 h3 h4
    subst this
    exact hb
  · rcases Nat.lt_or_ge p (dm_ch kd t c) with w | w
    · exfalso
      obtain ⟨c', hc', g1, g2⟩ := dm_ch_cov T ht c (by omega) p z w
      have hcl : dm_ch kd t c' < n := dm_ch_lt T ht (by omega)
      have e1 := dm_E_nest T hcl g1 g2
      have e2 := dm_ch_mono T ht c c' hc' (by omega)
      have e3 := dm_ch_in T hpn hd
      omega
    · exact h p d w hpn hd h3 h4
theorem dm_UB_dn {na nb : Nat → Int32} {x : Int32} (T : dm_Tr kd n) (ht : t < n) (hc : c < dm_ar (kd t)) (h1 : dm_ch kd t c ≤ v) (h2 : v < dm_E kd (dm_ch kd t c)) (h : dm_UB kd na nb n v t x) : dm_UB kd na nb n v (dm_ch kd t c) x ∧ ¬ dm_bd kd na nb t c x := by
  refine ⟨fun p d hp => h p d ?_, h t c (Nat.le_refl _) ht hc h1 h2⟩
  have := dm_ch_gt T ht (Nat.le_of_lt hc)
  omega
/-- the masks of free names -/
def dm_FN (kd na nb : Nat → Int32) (n : Nat) (f : Nat → Int32) : Prop := ∀ i, i < n → ∀ x, x < 32 → (bt (f i) x = true ↔ ((kd i = 2 ∧ na i = nI x) ∨ ∃ c, c < dm_ar (kd i) ∧ bt (f (dm_ch kd i c)) x = true ∧ ¬ dm_bd kd na nb i c (nI x)))
theorem dm_FN_UB {na nb f : Nat → Int32} (T : dm_Tr kd n) (F : dm_FN kd na nb n f) : ∀ d t, t < n → n - t ≤ d → ∀ x, x < 32 → (bt (f t) x = true ↔ ∃ v, t ≤ v ∧ v < dm_E kd t ∧ kd v = 2 ∧ na v = nI x ∧ dm_UB kd na nb n v t (nI x)) := by
  intro d
  induction d with
  | zero => intro t h1 h2; omega
  | succ d ih =>
    intro t ht hd x hx
    rw [F t ht x hx]
    constructor
    · rintro (⟨h1, h2⟩ | ⟨c, hc, h1, h2⟩)
      · exact ⟨t, Nat.le_refl _, dm_E_gt T ht, h1, h2, dm_UB_v T⟩
      · have hcl := dm_ch_lt T ht hc
        have hcg := dm_ch_gt T ht (Nat.le_of_lt hc)
        obtain ⟨v, v1, v2, v3, v4, v5⟩ := (ih (dm_ch kd t c) hcl (by omega) x hx).mp h1
        have hin := dm_ch_in T ht hc
        exact ⟨v, by omega, by omega, v3, v4, dm_UB_up T ht hc v1 v2 v5 h2⟩
    · rintro ⟨v, v1, v2, v3, v4, v5⟩
      rcases Nat.eq_or_lt_of_le v1 with z | z
      · subst z
        exact Or.inl ⟨v3, v4⟩
      · obtain ⟨c, hc, g1, g2⟩ := dm_cov T ht z v2
        obtain ⟨u1, u2⟩ := dm_UB_dn T ht hc g1 g2 v5
        have hcl := dm_ch_lt T ht hc
        have hcg := dm_ch_gt T ht (Nat.le_of_lt hc)
        exact Or.inr ⟨c, hc, (ih (dm_ch kd t c) hcl (by omega) x hx).mpr ⟨v, g1, g2, v3, v4, u1⟩, u2⟩
theorem dm_FN_iff {na nb f : Nat → Int32} (T : dm_Tr kd n) (F : dm_FN kd na nb n f) {x : Nat} (ht : t < n) (hx : x < 32) : bt (f t) x = true ↔ ∃ v, t ≤ v ∧ v < dm_E kd t ∧ kd v = 2 ∧ na v = nI x ∧ dm_UB kd na nb n v t (nI x) := dm_FN_UB T F (n - t) t ht (Nat.le_refl _) x hx
end
/-! tags: how many lambdas stand before a node -/
def dm_cnt (kd : Nat → Int32) : Nat → Nat
  | 0 => 0
  | k + 1 => if kd k = 13 ∨ kd k = 15 then dm_cnt kd k + 1 else dm_cnt kd k
theorem dm_cnt_t {kd : Nat → Int32} {k : Nat} (h : kd k = 13 ∨ kd k = 15) : dm_cnt kd (k + 1) = dm_cnt kd k + 1 := if_pos h
theorem dm_cnt_f {kd : Nat → Int32} {k : Nat} (h : ¬ (kd k = 13 ∨ kd k = 15)) : dm_cnt kd (k + 1) = dm_cnt kd k := if_neg h
theorem dm_cnt_s (kd : Nat → Int32) (k : Nat) : dm_cnt kd k ≤ dm_cnt kd (k + 1) ∧ dm_cnt kd (k + 1) ≤ dm_cnt kd k + 1 := by
  by_cases h : kd k = 13 ∨ kd k = 15
  · rw [dm_cnt_t h]
    omega
  · rw [dm_cnt_f h]
    omega
theorem dm_cnt_le (kd : Nat → Int32) : ∀ k, dm_cnt kd k ≤ k := by
  intro k
  induction k with
  | zero => exact Nat.le_refl _
  | succ k ih =>
    have := dm_cnt_s kd k
    omega
theorem dm_cnt_mono (kd : Nat → Int32) (i : Nat) : ∀ d, dm_cnt kd i ≤ dm_cnt kd (i + d) := by
  intro d
  induction d with
  | zero => exact Nat.le_refl _
  | succ d ih =>
    have := dm_cnt_s kd (i + d)
    have e : i + (d + 1) = (i + d) + 1 := by omega
    rw [e]
    omega
theorem dm_cnt_m {kd : Nat → Int32} {i j : Nat} (h : i ≤ j) : dm_cnt kd i ≤ dm_cnt kd j := by
  obtain ⟨d, rfl⟩ : ∃ d, j = i + d := ⟨j - i, by omega⟩
  exact dm_cnt_mono kd i d
theorem dm_cnt_lt {kd : Nat → Int32} {i j : Nat} (h : i < j) (hl : kd i = 13 ∨ kd i = 15) : dm_cnt kd i < dm_cnt kd j := by
  have h1 := dm_cnt_m (kd := kd) (show i + 1 ≤ j from h)
  rw [dm_cnt_t hl] at h1
  omega
theorem dm_cnt_ex {kd : Nat → Int32} : ∀ n t, t < dm_cnt kd n → ∃ i, i < n ∧ (kd i = 13 ∨ kd i = 15) ∧ dm_cnt kd i = t := by
  intro n
  induction n with
  | zero =>
    intro t h
    exact absurd h (Nat.not_lt_zero t)
  | succ n ih =>
    intro t h
    by_cases hl : kd n = 13 ∨ kd n = 15
    · rw [dm_cnt_t hl] at h
      rcases Nat.eq_or_lt_of_le (show t ≤ dm_cnt kd n by omega) with z | z
      · exact ⟨n, by omega, hl, z.symm⟩
      · obtain ⟨i, h1, h2⟩ := ih t z
        exact ⟨i, by omega, h2⟩
    · rw [dm_cnt_f hl] at h
      obtain ⟨i, h1, h2⟩ := ih t h
      exact ⟨i, by omega, h2⟩
end
section
/-! X's values: one long, the kind above 32 bits of data -/
def dm_val (k d : Int32) : Int64 := (k.toInt64 <<< ((32 : Int32).toInt64 &&& 63)) ||| (d.toInt64 &&& 4294967295)
def dm_kof (v : Int64) : Int32 := ((v.toUInt64 >>> ((32 : Int32).toInt64.toUInt64 &&& Int64.toUInt64 63)).toInt64).toInt32
theorem dm_mask : ∀ i, i < 64 → (4294967295 : Int64).toBitVec.getLsbD i = decide (i < 32) := by decide +kernel
theorem dm_val_b (k d : Int32) (i : Nat) (hi : i < 64) : (dm_val k d).toBitVec.getLsbD i = if i < 32 then d.toBitVec.getLsbD i else k.toBitVec.getLsbD (i - 32) := by
  unfold dm_val
  rw [Int64.toBitVec_or, BitVec.getLsbD_or, Int64.toBitVec_and, BitVec.getLsbD_and, dm_mask i hi, Int64.toBitVec_shiftLeft]
  show ((k.toInt64.toBitVec <<< (((32 : Int32).toInt64 &&& 63).toBitVec.smod 64).toNat).getLsbD i || _) = _
  rw [show (((32 : Int32).toInt64 &&& 63).toBitVec.smod 64).toNat = 32 by decide, BitVec.getLsbD_shiftLeft, Int32.toBitVec_toInt64, Int32.toBitVec_toInt64, BitVec.getLsbD_signExtend, BitVec.getLsbD_signExtend]
  by_cases h : i < 32
  · simp [h, hi]
  · have h2 : i - 32 < 32 := by omega
    have h3 : i - 32 < 64 := by omega
    simp [h, hi, h2, h3]
theorem dm_val_d (k d : Int32) : (dm_val k d).toInt32 = d := by
  apply Int32.toBitVec_inj.mp
  apply BitVec.eq_of_getLsbD_eq
  intro i hi
  rw [Int64.toBitVec_toInt32, BitVec.getLsbD_signExtend, dm_val_b k d i (by omega), if_pos hi, if_pos (show i < 64 by omega)]
  simp [hi]
theorem dm_val_k (k d : Int32) : dm_kof (dm_val k d) = k := by
  apply Int32.toBitVec_inj.mp
  apply BitVec.eq_of_getLsbD_eq
  intro i hi
  unfold dm_kof
  rw [Int64.toBitVec_toInt32, BitVec.getLsbD_signExtend, if_pos (show i < 64 by omega)]
  show (decide (i < 32) && ((dm_val k d).toUInt64 >>> ((32 : Int32).toInt64.toUInt64 &&& Int64.toUInt64 63)).toBitVec.getLsbD i) = _
  rw [UInt64.toBitVec_shiftRight]
  show (decide (i < 32) && ((dm_val k d).toBitVec >>> (((32 : Int32).toInt64.toUInt64 &&& Int64.toUInt64 63).toBitVec % 64).toNat).getLsbD i) = _
  rw [show (((32 : Int32).toInt64.toUInt64 &&& Int64.toUInt64 63).toBitVec % 64).toNat = 32 by decide, BitVec.getLsbD_ushiftRight, dm_val_b k d (32 + i) (by omega), if_neg (by omega), Nat.add_sub_cancel_left]
  simp [hi]
theorem dm_kof0 : dm_kof 0 = 0 := by decide
end
section
/-! the world of a run: Y's heap cell c stands for X's value m c; Y's environment e (0: none, j + 1: entry j) finds the cell L e x - 1 for the name x -/
def dm_eI (e : Nat) : Int32 := nI e - 1
theorem dm_eI0 : dm_eI 0 = -1 := by decide
theorem dm_eIs (j : Nat) : dm_eI (j + 1) = nI j := nI_pred j
def dm_EO (hp : Nat) (m : Nat → Int64) (Le : Nat → Nat) (bs : Nat → Int64) (W : Nat → Prop) : Prop := ∀ x, x < 8 → W x → ∃ c, c < hp ∧ Le x = c + 1 ∧ bs x = m c
section
variable {hp hp' c0 y : Nat} {m m' bs bs' : Nat → Int64} {Le Le' : Nat → Nat} {W W' : Nat → Prop}
theorem dm_EO_w (h : dm_EO hp m Le bs W) (hw : ∀ x, x < 8 → W' x → W x) : dm_EO hp m Le bs W' := fun x hx w => h x hx (hw x hx w)
theorem dm_EO_x (h : dm_EO hp m Le bs W) (h1 : hp ≤ hp') (h2 : ∀ c, c < hp → m' c = m c) (h3 : ∀ x, x < 8 → Le' x = Le x) (h4 : ∀ x, x < 8 → bs' x = bs x) : dm_EO hp' m' Le' bs' W := by
  intro x hx w
  obtain ⟨c, c1, c2, c3⟩ := h x hx w
  exact ⟨c, by omega, by rw [h3 x hx, c2], by rw [h4 x hx, c3, h2 c c1]⟩
theorem dm_EO_b (h : dm_EO hp m Le bs (fun x => W x ∧ x ≠ y)) (hc : c0 < hp) (h3 : ∀ x, x < 8 → Le' x = if x = y then c0 + 1 else Le x) (h4 : ∀ x, x < 8 → bs' x = if x = y then m c0 else bs x) : dm_EO hp m Le' bs' W := by
  intro x hx w
  by_cases e : x = y
  · exact ⟨c0, hc, by rw [h3 x hx, if_pos e], by rw [h4 x hx, if_pos e]⟩
  · obtain ⟨c, c1, c2, c3⟩ := h x hx ⟨w, e⟩
    exact ⟨c, c1, by rw [h3 x hx, if_neg e, c2], by rw [h4 x hx, if_neg e, c3]⟩
end
/-- what is free in the lambda l -/
def dm_LW (kd na nb f : Nat → Int32) (l x : Nat) : Prop := bt (f (l + 1)) x = true ∧ ¬ dm_bd kd na nb l 0 (nI x)
/-- the cell c of Y's heap -/
def dm_HC (kd na nb f : Nat → Int32) (n hp ep un : Nat) (m : Nat → Int64) (L : Nat → Nat → Nat) (bo : Nat → Int64) (vK vA vB : Nat → Int32) (pF pS : Nat → Int64) (cT cB : Nat → Int32) (c : Nat) : Prop :=
  (vK c = 1 ∧ m c = dm_val 1 (vA c)) ∨
  (vK c = 2 ∧ ∃ p a b, 1 ≤ p ∧ p ≤ un ∧ a < c ∧ b < c ∧ m c = dm_val 2 (nI p) ∧ vA c = nI a ∧ vB c = nI b ∧ pF p = m a ∧ pS p = m b) ∨
  (vK c = 3 ∧ ∃ p l e s, 1 ≤ p ∧ p ≤ un ∧ l < n ∧ (kd l = 13 ∨ kd l = 15) ∧ e ≤ ep ∧ s ≤ un ∧ m c = dm_val 3 (nI p) ∧ vA c = nI l ∧ vB c = dm_eI e ∧ cT p = nI (dm_cnt kd l) ∧ cB p = nI s ∧ dm_EO hp m (L e) (fun x => bo (s * 8 + x)) (dm_LW kd na nb f l))
section
variable {kd na nb f : Nat → Int32} {n hp ep un hp' ep' un' : Nat} {m m' bo bo' : Nat → Int64} {L L' : Nat → Nat → Nat} {vK vA vB vK' vA' vB' : Nat → Int32} {pF pS pF' pS' : Nat → Int64} {cT cB cT' cB' : Nat → Int32}
/-- what an extension keeps -/
def dm_Ex (hp ep un hp' ep' un' : Nat) (m m' bo bo' : Nat → Int64) (L L' : Nat → Nat → Nat) : Prop := hp ≤ hp' ∧ ep ≤ ep' ∧ un ≤ un' ∧ (∀ c, c < hp → m' c = m c) ∧ (∀ k, k < (un + 1) * 8 → bo' k = bo k) ∧ (∀ e, e ≤ ep → ∀ x, x < 8 → L' e x = L e x)
theorem dm_Ex_r : dm_Ex hp ep un hp ep un m m bo bo L L := ⟨Nat.le_refl _, Nat.le_refl _, Nat.le_refl _, fun _ _ => rfl, fun _ _ => rfl, fun _ _ _ _ => rfl⟩
theorem dm_EO_e {e s : Nat} {W : Nat → Prop} (X : dm_Ex hp ep un hp' ep' un' m m' bo bo' L L') (he : e ≤ ep) (hs : s ≤ un) (h : dm_EO hp m (L e) (fun x => bo (s * 8 + x)) W) : dm_EO hp' m' (L' e) (fun x => bo' (s * 8 + x)) W :=
  dm_EO_x h X.1 X.2.2.2.1 (fun x hx => X.2.2.2.2.2 e he x hx) (fun x hx => X.2.2.2.2.1 _ (by omega))
theorem dm_HC_x {c : Nat} (X : dm_Ex hp ep un hp' ep' un' m m' bo bo' L L') (hc : c < hp) (e1 : vK' c = vK c) (e2 : vA' c = vA c) (e3 : vB' c = vB c) (e4 : ∀ p, p ≤ un → pF' p = pF p) (e5 : ∀ p, p ≤ un → pS' p = pS p) (e6 : ∀ p, p ≤ un → cT' p = cT p) (e7 : ∀ p, p ≤ un → cB' p = cB p)
    (h : dm_HC kd na nb f n hp ep un m L bo vK vA vB pF pS cT cB c) : dm_HC kd na nb f n hp' ep' un' m' L' bo' vK' vA' vB' pF' pS' cT' cB' c := by
  obtain ⟨x1, x2, x3, x4, x5, x6⟩ := id X
  rcases h with ⟨h1, h2⟩ | ⟨h1, p, a, b, h2, h3, h4, h5, h6, h7, h8, h9, h10⟩ | ⟨h1, p, l, e, s, h2, h3, h4, h5, h6, h7, h8, h9, h10, h11, h12, h13⟩
  · exact Or.inl ⟨by rw [e1, h1], by rw [x4 c hc, e2, h2]⟩
  · exact Or.inr (Or.inl ⟨by rw [e1, h1], p, a, b, h2, by omega, h4, h5, by rw [x4 c hc, h6], by rw [e2, h7], by rw [e3, h8], by rw [e4 p h3, h9, x4 a (by omega)], by rw [e5 p h3, h10, x4 b (by omega)]⟩)
  · exact Or.inr (Or.inr ⟨by rw [e1, h1], p, l, e, s, h2, by omega, h4, h5, by omega, by omega, by rw [x4 c hc, h8], by rw [e2, h9], by rw [e3, h10], by rw [e6 p h3, h11], by rw [e7 p h3, h12], dm_EO_e X h6 h7 h13⟩)
end
/-- Y's table of bindings -/
def dm_LK (L : Nat → Nat → Nat) (hp ep : Nat) (eN eV eX : Nat → Int32) : Prop := (∀ x, L 0 x = 0) ∧ ∀ j, j < ep → ∃ y q c, y < 8 ∧ q ≤ j ∧ c < hp ∧ eN j = nI y ∧ eV j = nI c ∧ eX j = dm_eI q ∧ ∀ x, x < 8 → L (j + 1) x = if x = y then c + 1 else L q x
section
variable {hp hp' ep : Nat} {L : Nat → Nat → Nat} {eN eV eX : Nat → Int32}
theorem dm_LK_h (h : dm_LK L hp ep eN eV eX) (h1 : hp ≤ hp') : dm_LK L hp' ep eN eV eX := by
  refine ⟨h.1, fun j hj => ?_⟩
  obtain ⟨y, q, c, g1, g2, g3, g4⟩ := h.2 j hj
  exact ⟨y, q, c, g1, g2, by omega, g4⟩
/-- one more binding of y to the cell c, before the environment q -/
def dm_Ls (L : Nat → Nat → Nat) (ep y c q : Nat) : Nat → Nat → Nat := fun e x => if e = ep + 1 then (if x = y then c + 1 else L q x) else L e x
theorem dm_Ls_o {y c q e x : Nat} (h : e ≤ ep) : dm_Ls L ep y c q e x = L e x := if_neg (by omega)
theorem dm_Ls_n {y c q x : Nat} : dm_Ls L ep y c q (ep + 1) x = if x = y then c + 1 else L q x := if_pos rfl
theorem dm_LK_b {y c q : Nat} (h : dm_LK L hp ep eN eV eX) (hy : y < 8) (hc : c < hp) (hq : q ≤ ep) : dm_LK (dm_Ls L ep y c q) hp (ep + 1) (upd eN ep (nI y)) (upd eV ep (nI c)) (upd eX ep (dm_eI q)) := by
  refine ⟨fun x => ?_, fun j hj => ?_⟩
  · rw [dm_Ls_o (by omega)]
    exact h.1 x
  · rcases Nat.eq_or_lt_of_le (show j ≤ ep by omega) with z | z
    · subst z
      exact ⟨y, q, c, hy, hq, hc, pk_us, pk_us, pk_us, fun x _ => by rw [dm_Ls_n, dm_Ls_o hq]⟩
    · obtain ⟨y', q', c', g1, g2, g3, g4, g5, g6, g7⟩ := h.2 j z
      refine ⟨y', q', c', g1, g2, g3, ?_, ?_, ?_, fun x hx => ?_⟩
      · rw [pk_un (by omega), g4]
      · rw [pk_un (by omega), g5]
      · rw [pk_un (by omega), g6]
      · rw [dm_Ls_o (by omega), dm_Ls_o (by omega), g7 x hx]
end
/-! the two stacks -/
def dm_kF (k : Int32) : Prop := k = 3 ∨ k = 4 ∨ k = 5 ∨ k = 6 ∨ k = 7 ∨ k = 8 ∨ k = 9 ∨ k = 10 ∨ k = 11 ∨ k = 12 ∨ k = 14 ∨ k = 16
def dm_kS (k : Int32) : Prop := k = 3 ∨ k = 4 ∨ k = 5 ∨ k = 6 ∨ k = 7 ∨ k = 8 ∨ k = 10 ∨ k = 16
def dm_kT (k s : Int32) : Prop := (k = 9 ∧ s = 2) ∨ (k = 14 ∧ s = 2) ∨ (k = 15 ∧ s = 1)
section
variable (kd f : Nat → Int32) (n hp ep un : Nat) (m : Nat → Int64) (L : Nat → Nat → Nat) (bo : Nat → Int64) (fN fS fE fV wN wF wB : Nat → Int32) (wV : Nat → Int64)
/-- Y's j frames against X's w waiting nodes, a of them for a body; p: what their work may still cost -/
def dm_St : Nat → Nat → Nat → Nat → Prop
  | 0 => fun w a p => w = 0 ∧ a = 0 ∧ p = 0
  | j + 1 => fun w a p => ∃ i, i < n ∧ fN j = nI i ∧
    ((∃ p', dm_kT (kd i) (fS j) ∧ j ≤ 32 * a + i ∧ p = p' + 1 ∧ dm_St j w a p') ∨
     (∃ w' a' p', w = w' + 1 ∧ a = a' + 1 ∧ p = p' + 1 ∧ kd i = 16 ∧ fS j = 3 ∧ wN w' = nI i ∧ wF w' = 2 ∧ j ≤ 32 * a' + i ∧ dm_St j w' a' p') ∨
     (∃ w' p' e s, w = w' + 1 ∧ p = p' + 7 + 8 * (dm_E kd i - dm_E kd (i + 1)) ∧ fS j = 1 ∧ dm_kF (kd i) ∧ wN w' = nI i ∧ wF w' = 0 ∧ fE j = dm_eI e ∧ wB w' = nI s ∧ e ≤ ep ∧ s ≤ un ∧ dm_EO hp m (L e) (fun x => bo (s * 8 + x)) (fun x => bt (f i) x = true) ∧ j ≤ 32 * a + i ∧ dm_St j w' a p') ∨
     (∃ w' p' c, w = w' + 1 ∧ p = p' + 6 ∧ fS j = 2 ∧ dm_kS (kd i) ∧ wN w' = nI i ∧ wF w' = 1 ∧ c < hp ∧ fV j = nI c ∧ wV w' = m c ∧ j ≤ 32 * a + i ∧ dm_St j w' a p'))
end
section
variable {kd f : Nat → Int32} {n hp ep un hp' ep' un' : Nat} {m m' : Nat → Int64} {L L' : Nat → Nat → Nat} {bo bo' : Nat → Int64} {fN fS fE fV wN wF wB fN' fS' fE' fV' wN' wF' wB' : Nat → Int32} {wV wV' : Nat → Int64}
theorem dm_St_x (X : dm_Ex hp ep un hp' ep' un' m m' bo bo' L L') : ∀ j w a p, (∀ i, i < j → fN' i = fN i ∧ fS' i = fS i ∧ fE' i = fE i ∧ fV' i = fV i) → (∀ i, i < w → wN' i = wN i ∧ wF' i = wF i ∧ wB' i = wB i ∧ wV' i = wV i) →
    dm_St kd f n hp ep un m L bo fN fS fE fV wN wF wB wV j w a p → dm_St kd f n hp' ep' un' m' L' bo' fN' fS' fE' fV' wN' wF' wB' wV' j w a p := by
  intro j
  induction j with
  | zero => intro w a p _ _ h; exact h
  | succ j ih =>
    intro w a p hY hX h
    obtain ⟨x1, x2, x3, x4, x5, x6⟩ := id X
    obtain ⟨y1, y2, y3, y4⟩ := hY j (by omega)
    have hY' : ∀ i, i < j → fN' i = fN i ∧ fS' i = fS i ∧ fE' i = fE i ∧ fV' i = fV i := fun i hi => hY i (by omega)
    obtain ⟨i, hi, h0, h⟩ := h
    refine ⟨i, hi, by rw [y1, h0], ?_⟩
    rcases h with ⟨p', h1, h2, h3, h4⟩ | ⟨w', a', p', h1, h2, h3, h4, h5, h6, h7, h8, h9⟩ | ⟨w', p', e, s, h1, h2, h3, h4, h5, h6, h7, h8, h9, h10, h11, h12, h13⟩ | ⟨w', p', c, h1, h2, h3, h4, h5, h6, h7, h8, h9, h10, h11⟩
    · exact Or.inl ⟨p', by rw [y2]; exact h1, h2, h3, ih w a p' hY' hX h4⟩
    · obtain ⟨z1, z2, z3, z4⟩ := hX w' (by omega)
      exact Or.inr (Or.inl ⟨w', a', p', h1, h2, h3, h4, by rw [y2, h5], by rw [z1, h6], by rw [z2, h7], h8, ih w' a' p' hY' (fun i hi => hX i (by omega)) h9⟩)
    · obtain ⟨z1, z2, z3, z4⟩ := hX w' (by omega)
      exact Or.inr (Or.inr (Or.inl ⟨w', p', e, s, h1, h2, by rw [y2, h3], h4, by rw [z1, h5], by rw [z2, h6], by rw [y3, h7], by rw [z3, h8], by omega, by omega, dm_EO_e X h9 h10 h11, h12, ih w' a p' hY' (fun i hi => hX i (by omega)) h13⟩))
    · obtain ⟨z1, z2, z3, z4⟩ := hX w' (by omega)
      exact Or.inr (Or.inr (Or.inr ⟨w', p', c, h1, h2, by rw [y2, h3], h4, by rw [z1, h5], by rw [z2, h6], by omega, by rw [y4, h8], by rw [z4, h9, x4 c h7], h10, ih w' a p' hY' (fun i hi => hX i (by omega)) h11⟩))
theorem dm_St_le : ∀ j w a p, dm_St kd f n hp ep un m L bo fN fS fE fV wN wF wB wV j w a p → w ≤ j := by
  intro j
  induction j with
  | zero => intro w a p h; exact Nat.le_of_eq h.1
  | succ j ih =>
    intro w a p h
    obtain ⟨i, hi, h0, h⟩ := h
    rcases h with ⟨p', h1, h2, h3, h4⟩ | ⟨w', a', p', h1, h2, h3, h4, h5, h6, h7, h8, h9⟩ | ⟨w', p', e, s, h1, h2, h3, h4, h5, h6, h7, h8, h9, h10, h11, h12, h13⟩ | ⟨w', p', c, h1, h2, h3, h4, h5, h6, h7, h8, h9, h10, h11⟩
    · have := ih _ _ _ h4
      omega
    · have := ih _ _ _ h9
      omega
    · have := ih _ _ _ h13
      omega
    · have := ih _ _ _ h11
      omega
end
end
section
/-! how the world grows -/
section
variable {kd na nb f : Nat → Int32} {n B hp ep un : Nat} {m bo : Nat → Int64} {L : Nat → Nat → Nat} {vK vA vB : Nat → Int32} {pF pS : Nat → Int64} {cT cB eN eV eX : Nat → Int32}
theorem dm_Ex_t {hp ep un hp1 ep1 un1 hp2 ep2 un2 : Nat} {m m1 m2 bo bo1 bo2 : Nat → Int64} {L L1 L2 : Nat → Nat → Nat} (h : dm_Ex hp ep un hp1 ep1 un1 m m1 bo bo1 L L1) (g : dm_Ex hp1 ep1 un1 hp2 ep2 un2 m1 m2 bo1 bo2 L1 L2) : dm_Ex hp ep un hp2 ep2 un2 m m2 bo bo2 L L2 := by
  obtain ⟨h1, h2, h3, h4, h5, h6⟩ := h
  obtain ⟨g1, g2, g3, g4, g5, g6⟩ := g
  refine ⟨by omega, by omega, by omega, fun c hc => ?_, fun k hk => ?_, fun e he x hx => ?_⟩
  · rw [g4 c (by omega), h4 c hc]
  · rw [g5 k (by omega), h5 k hk]
  · rw [g6 e (by omega) x hx, h6 e he x hx]
def dm_Wd (kd na nb f : Nat → Int32) (n B hp ep un : Nat) (m : Nat → Int64) (L : Nat → Nat → Nat) (bo : Nat → Int64) (vK vA vB : Nat → Int32) (pF pS : Nat → Int64) (cT cB eN eV eX : Nat → Int32) : Prop :=
  (∀ c, c < hp → dm_HC kd na nb f n hp ep un m L bo vK vA vB pF pS cT cB c) ∧ dm_LK L hp ep eN eV eX ∧ ep ≤ 2 * un ∧ un ≤ B
theorem dm_Wd_unit {bo' pF' pS' : Nat → Int64} {cT' cB' : Nat → Int32} (h : dm_Wd kd na nb f n B hp ep un m L bo vK vA vB pF pS cT cB eN eV eX) (hB : un < B) (e1 : ∀ k, k < (un + 1) * 8 → bo' k = bo k) (e4 : ∀ p, p ≤ un → pF' p = pF p) (e5 : ∀ p, p ≤ un → pS' p = pS p) (e6 : ∀ p, p ≤ un → cT' p = cT p) (e7 : ∀ p, p ≤ un → cB' p = cB p) :
    dm_Ex hp ep un hp ep (un + 1) m m bo bo' L L ∧ dm_Wd kd na nb f n B hp ep (un + 1) m L bo' vK vA vB pF' pS' cT' cB' eN eV eX := by
  have X : dm_Ex hp ep un hp ep (un + 1) m m bo bo' L L := ⟨Nat.le_refl _, Nat.le_refl _, by omega, fun _ _ => rfl, e1, fun _ _ _ _ => rfl⟩
  obtain ⟨h1, h2, h3, h4⟩ := h
  exact ⟨X, fun c hc => dm_HC_x X hc rfl rfl rfl e4 e5 e6 e7 (h1 c hc), h2, by omega, by omega⟩
theorem dm_Wd_cell {k x y : Int32} {v : Int64} (h : dm_Wd kd na nb f n B hp ep un m L bo vK vA vB pF pS cT cB eN eV eX) (hc : dm_HC kd na nb f n (hp + 1) ep un (vp_updL m hp v) L bo (upd vK hp k) (upd vA hp x) (upd vB hp y) pF pS cT cB hp) :
    dm_Ex hp ep un (hp + 1) ep un m (vp_updL m hp v) bo bo L L ∧ dm_Wd kd na nb f n B (hp + 1) ep un (vp_updL m hp v) L bo (upd vK hp k) (upd vA hp x) (upd vB hp y) pF pS cT cB eN eV eX := by
  have X : dm_Ex hp ep un (hp + 1) ep un m (vp_updL m hp v) bo bo L L := ⟨by omega, Nat.le_refl _, Nat.le_refl _, fun c hc => pk_uLn (by omega), fun _ _ => rfl, fun _ _ _ _ => rfl⟩
  obtain ⟨h1, h2, h3, h4⟩ := h
  refine ⟨X, fun c hc' => ?_, dm_LK_h h2 (by omega), h3, h4⟩
  rcases Nat.eq_or_lt_of_le (show c ≤ hp by omega) with z | z
  · subst z
    exact hc
  · exact dm_HC_x X z (pk_un (by omega)) (pk_un (by omega)) (pk_un (by omega)) (fun _ _ => rfl) (fun _ _ => rfl) (fun _ _ => rfl) (fun _ _ => rfl) (h1 c z)
theorem dm_Wd_env {y c q : Nat} (h : dm_Wd kd na nb f n B hp ep un m L bo vK vA vB pF pS cT cB eN eV eX) (hy : y < 8) (hc : c < hp) (hq : q ≤ ep) (he : ep + 1 ≤ 2 * un) :
    dm_Ex hp ep un hp (ep + 1) un m m bo bo L (dm_Ls L ep y c q) ∧ dm_Wd kd na nb f n B hp (ep + 1) un m (dm_Ls L ep y c q) bo vK vA vB pF pS cT cB (upd eN ep (nI y)) (upd eV ep (nI c)) (upd eX ep (dm_eI q)) := by
  have X : dm_Ex hp ep un hp (ep + 1) un m m bo bo L (dm_Ls L ep y c q) := ⟨Nat.le_refl _, by omega, Nat.le_refl _, fun _ _ => rfl, fun _ _ => rfl, fun e he x hx => dm_Ls_o he⟩
  obtain ⟨h1, h2, h3, h4⟩ := h
  exact ⟨X, fun c hc => dm_HC_x X hc rfl rfl rfl (fun _ _ => rfl) (fun _ _ => rfl) (fun _ _ => rfl) (fun _ _ => rfl) (h1 c hc), dm_LK_b h2 hy hc hq, he, h4⟩
theorem dm_Wd_int (h : dm_Wd kd na nb f n B hp ep un m L bo vK vA vB pF pS cT cB eN eV eX) (z y : Int32) :
    dm_Ex hp ep un (hp + 1) ep un m (vp_updL m hp (dm_val 1 z)) bo bo L L ∧ dm_Wd kd na nb f n B (hp + 1) ep un (vp_updL m hp (dm_val 1 z)) L bo (upd vK hp 1) (upd vA hp z) (upd vB hp y) pF pS cT cB eN eV eX :=
  dm_Wd_cell h (Or.inl ⟨pk_us, by rw [pk_uLs, pk_us]⟩)
theorem dm_Wd_pair {a b : Nat} (h : dm_Wd kd na nb f n B hp ep un m L bo vK vA vB pF pS cT cB eN eV eX) (hB : un < B) (ha : a < hp) (hb : b < hp) :
    dm_Ex hp ep un (hp + 1) ep (un + 1) m (vp_updL m hp (dm_val 2 (nI (un + 1)))) bo bo L L ∧ dm_Wd kd na nb f n B (hp + 1) ep (un + 1) (vp_updL m hp (dm_val 2 (nI (un + 1)))) L bo (upd vK hp 2) (upd vA hp (nI a)) (upd vB hp (nI b)) (vp_updL pF (un + 1) (m a)) (vp_updL pS (un + 1) (m b)) cT cB eN eV eX := by
  obtain ⟨X, g⟩ := dm_Wd_unit (bo' := bo) (pF' := vp_updL pF (un + 1) (m a)) (pS' := vp_updL pS (un + 1) (m b)) (cT' := cT) (cB' := cB) h hB (fun _ _ => rfl) (fun p hp => pk_uLn (by omega)) (fun p hp => pk_uLn (by omega)) (fun _ _ => rfl) (fun _ _ => rfl)
  obtain ⟨Y, g2⟩ := dm_Wd_cell (k := 2) (x := nI a) (y := nI b) (v := dm_val 2 (nI (un + 1))) g
    (Or.inr (Or.inl ⟨pk_us, un + 1, a, b, by omega, by omega, ha, hb, pk_uLs, pk_us, pk_us, by rw [pk_uLs, pk_uLn (by omega)], by rw [pk_uLs, pk_uLn (by omega)]⟩))
  exact ⟨dm_Ex_t X Y, g2⟩
/-- a closure of the lambda l; its set of bindings is s, and the unit's own set may be written -/
theorem dm_Wd_fun {l e s : Nat} {bo' : Nat → Int64} (h : dm_Wd kd na nb f n B hp ep un m L bo vK vA vB pF pS cT cB eN eV eX) (hB : un < B) (hl : l < n) (hk : kd l = 13 ∨ kd l = 15) (he : e ≤ ep) (hs : s ≤ un) (e1 : ∀ k, k < (un + 1) * 8 → bo' k = bo k) (hE : dm_EO hp m (L e) (fun x => bo (s * 8 + x)) (dm_LW kd na nb f l)) :
    dm_Ex hp ep un (hp + 1) ep (un + 1) m (vp_updL m hp (dm_val 3 (nI (un + 1)))) bo bo' L L ∧ dm_Wd kd na nb f n B (hp + 1) ep (un + 1) (vp_updL m hp (dm_val 3 (nI (un + 1)))) L bo' (upd vK hp 3) (upd vA hp (nI l)) (upd vB hp (dm_eI e)) pF pS (upd cT (un + 1) (nI (dm_cnt kd l))) (upd cB (un + 1) (nI s)) eN eV eX := by
  obtain ⟨X, g⟩ := dm_Wd_unit (bo' := bo') (pF' := pF) (pS' := pS) (cT' := upd cT (un + 1) (nI (dm_cnt kd l))) (cB' := upd cB (un + 1) (nI s)) h hB e1 (fun _ _ => rfl) (fun _ _ => rfl) (fun p hp => pk_un (by omega)) (fun p hp => pk_un (by omega))
  have Y : dm_Ex hp ep (un + 1) (hp + 1) ep (un + 1) m (vp_updL m hp (dm_val 3 (nI (un + 1)))) bo' bo' L L := ⟨by omega, Nat.le_refl _, Nat.le_refl _, fun c hc => pk_uLn (by omega), fun _ _ => rfl, fun _ _ _ _ => rfl⟩
  have hE2 := dm_EO_e (dm_Ex_t X Y) he hs hE
  obtain ⟨Y, g2⟩ := dm_Wd_cell (k := 3) (x := nI l) (y := dm_eI e) (v := dm_val 3 (nI (un + 1))) g
    (Or.inr (Or.inr ⟨pk_us, un + 1, l, e, s, by omega, by omega, hl, hk, he, by omega, pk_uLs, pk_us, pk_us, pk_us, pk_us, hE2⟩))
  exact ⟨dm_Ex_t X Y, g2⟩
end
end
section
/-! X's copies of binding sets -/
def dm_cp (bo : Nat → Int64) (s t j : Nat) : Nat → Int64 := fun k => if t * 8 ≤ k ∧ k < t * 8 + j then bo (s * 8 + (k - t * 8)) else bo k
theorem dm_cp0 (bo : Nat → Int64) (s t : Nat) : dm_cp bo s t 0 = bo := by
  funext k
  exact if_neg (by omega)
theorem dm_cps {bo : Nat → Int64} {s t j : Nat} (h : s < t) (hj : j < 8) : vp_updL (dm_cp bo s t j) (t * 8 + j) (dm_cp bo s t j (s * 8 + j)) = dm_cp bo s t (j + 1) := by
  have e : dm_cp bo s t j (s * 8 + j) = bo (s * 8 + j) := if_neg (by omega)
  rw [e]
  funext k
  by_cases z : k = t * 8 + j
  · subst z
    rw [pk_uLs]
    have g : dm_cp bo s t (j + 1) (t * 8 + j) = bo (s * 8 + (t * 8 + j - t * 8)) := if_pos (by omega)
    rw [g, Nat.add_sub_cancel_left]
  · rw [pk_uLn z]
    by_cases w : t * 8 ≤ k ∧ k < t * 8 + j
    · have g1 : dm_cp bo s t j k = bo (s * 8 + (k - t * 8)) := if_pos w
      have g2 : dm_cp bo s t (j + 1) k = bo (s * 8 + (k - t * 8)) := if_pos (by omega)
      rw [g1, g2]
    · have g1 : dm_cp bo s t j k = bo k := if_neg w
      have g2 : dm_cp bo s t (j + 1) k = bo k := if_neg (by omega)
      rw [g1, g2]
theorem dm_cp_lo {bo : Nat → Int64} {s t k : Nat} (h : k < t * 8) : dm_cp bo s t 8 k = bo k := if_neg (by omega)
theorem dm_cp_in {bo : Nat → Int64} {s t x : Nat} (h : x < 8) : dm_cp bo s t 8 (t * 8 + x) = bo (s * 8 + x) := by
  have g : dm_cp bo s t 8 (t * 8 + x) = bo (s * 8 + (t * 8 + x - t * 8)) := if_pos (by omega)
  rw [g, Nat.add_sub_cancel_left]
theorem dm_b1_lo {bo : Nat → Int64} {t y k : Nat} {v : Int64} (h : k < t * 8) : vp_updL bo (t * 8 + y) v k = bo k := pk_uLn (by omega)
theorem dm_b1_in {bo : Nat → Int64} {t y x : Nat} {v : Int64} : vp_updL bo (t * 8 + y) v (t * 8 + x) = if x = y then v else bo (t * 8 + x) := by
  by_cases e : x = y
  · subst e
    rw [pk_uLs, if_pos rfl]
  · rw [pk_uLn (by omega), if_neg e]
end
section
/-! the picture of the object -/
def dm_Pg (kd na nb : Nat → Int32) (n : Nat) : Prop := n ≤ 32 ∧ (∀ k, k < n → 1 ≤ dm_O kd k) ∧ ∀ k, k < n → (∃ q, 1 ≤ q ∧ q ≤ 16 ∧ kd k = nI q) ∧ (kd k = 2 ∨ kd k = 13 ∨ kd k = 14 ∨ kd k = 15 → ∃ y, y < 8 ∧ na k = nI y) ∧ (kd k = 15 → ∃ y, y < 8 ∧ nb k = nI y)
def dm_Cp (kd na nb se fn tg tn : Nat → Int32) (n : Nat) : Prop := dm_O kd n = 0 ∧ (∀ i, i < n → se i = nI (dm_E kd i)) ∧ dm_FN kd na nb n fn ∧ fn 0 = 0 ∧ ∀ i, i < n → (kd i = 13 ∨ kd i = 15) → tg i = nI (dm_cnt kd i) ∧ tn (dm_cnt kd i) = nI i
def dm_RC (kd : Nat → Int32) (n : Nat) (m : Nat → Int64) (vK vA vB : Nat → Int32) (pF pS : Nat → Int64) (cT : Nat → Int32) (c : Nat) : Prop :=
  (vK c = 1 ∧ m c = dm_val 1 (vA c)) ∨
  (vK c = 2 ∧ ∃ p a b, p ≤ 64 ∧ a < c ∧ b < c ∧ m c = dm_val 2 (nI p) ∧ vA c = nI a ∧ vB c = nI b ∧ pF p = m a ∧ pS p = m b) ∨
  (vK c = 3 ∧ ∃ p l, p ≤ 64 ∧ l < n ∧ (kd l = 13 ∨ kd l = 15) ∧ m c = dm_val 3 (nI p) ∧ vA c = nI l ∧ cT p = nI (dm_cnt kd l))
def dm_R1 (kd : Nat → Int32) (n : Nat) (xr : Int64) (pF pS : Nat → Int64) (cT : Nat → Int32) : Prop :=
  xr = 0 ∨ ∃ (hp : Nat) (m : Nat → Int64) (vK vA vB : Nat → Int32) (c : Nat), c < hp ∧ xr = m c ∧ ∀ c, c < hp → dm_RC kd n m vK vA vB pF pS cT c
theorem dm_R10 {kd : Nat → Int32} {n : Nat} {pF pS : Nat → Int64} {cT : Nat → Int32} : dm_R1 kd n 0 pF pS cT := Or.inl rfl
def dm_XR (B D : Nat) (u : St2) : Prop := match u with
  | (xB, xD, xn, xo, xc, xl, oc, xu, xa, pk, xr, xw, en, cn, cb, cv, kd, na, nb, se, fn, tg, tn, pF, pS, cT, cB, bo, wN, wF, wB, wV) => ∃ n q t : Nat, xB = nI B ∧ xD = nI D ∧ xn = nI n ∧ xo = nI (dm_O kd n) ∧ pk = nI q ∧ xu = nI t ∧ q ≤ t ∧ t ≤ B ∧ q ≤ D ∧ (oc = 12 → t = B) ∧ (oc = 13 → q = D) ∧ 1 ≤ B ∧ B ≤ 64 ∧ 1 ≤ D ∧ D ≤ 8 ∧ dm_Pg kd na nb n ∧
    ((xc = 0 ∧ xl = 0 ∧ xr = 0) ∨ (xc = 1 ∧ xl = nI (dm_cnt kd n) ∧ dm_Cp kd na nb se fn tg tn n ∧ dm_R1 kd n xr pF pS cT))
section
variable {kd f : Nat → Int32} {n hp ep un j w a p i : Nat} {m : Nat → Int64} {L : Nat → Nat → Nat} {bo : Nat → Int64} {fN fS fE fV wN wF wB : Nat → Int32} {wV : Nat → Int64}
theorem dm_St_T (St : dm_St kd f n hp ep un m L bo fN fS fE fV wN wF wB wV j w a p) (hi : i < n) (h1 : fN j = nI i) (h2 : dm_kT (kd i) (fS j)) (h3 : j ≤ 32 * a + i) : dm_St kd f n hp ep un m L bo fN fS fE fV wN wF wB wV (j + 1) w a (p + 1) := ⟨i, hi, h1, Or.inl ⟨p, h2, h3, rfl, St⟩⟩
theorem dm_St_B (St : dm_St kd f n hp ep un m L bo fN fS fE fV wN wF wB wV j w a p) (hi : i < n) (h1 : fN j = nI i) (h2 : kd i = 16) (h3 : fS j = 3) (h4 : wN w = nI i) (h5 : wF w = 2) (h6 : j ≤ 32 * a + i) : dm_St kd f n hp ep un m L bo fN fS fE fV wN wF wB wV (j + 1) (w + 1) (a + 1) (p + 1) := ⟨i, hi, h1, Or.inr (Or.inl ⟨w, a, p, rfl, rfl, rfl, h2, h3, h4, h5, h6, St⟩)⟩
theorem dm_St_F {e s : Nat} (St : dm_St kd f n hp ep un m L bo fN fS fE fV wN wF wB wV j w a p) (hi : i < n) (h1 : fN j = nI i) (h2 : fS j = 1) (h3 : dm_kF (kd i)) (h4 : wN w = nI i) (h5 : wF w = 0) (h6 : fE j = dm_eI e) (h7 : wB w = nI s) (h8 : e ≤ ep) (h9 : s ≤ un) (h10 : dm_EO hp m (L e) (fun x => bo (s * 8 + x)) (fun x => bt (f i) x = true)) (h11 : j ≤ 32 * a + i) : dm_St kd f n hp ep un m L bo fN fS fE fV wN wF wB wV (j + 1) (w + 1) a (p + 7 + 8 * (dm_E kd i - dm_E kd (i + 1))) := ⟨i, hi, h1, Or.inr (Or.inr (Or.inl ⟨w, p, e, s, rfl, rfl, h2, h3, h4, h5, h6, h7, h8, h9, h10, h11, St⟩))⟩
theorem dm_St_S {c : Nat} (St : dm_St kd f n hp ep un m L bo fN fS fE fV wN wF wB wV j w a p) (hi : i < n) (h1 : fN j = nI i) (h2 : fS j = 2) (h3 : dm_kS (kd i)) (h4 : wN w = nI i) (h5 : wF w = 1) (h6 : c < hp) (h7 : fV j = nI c) (h8 : wV w = m c) (h9 : j ≤ 32 * a + i) : dm_St kd f n hp ep un m L bo fN fS fE fV wN wF wB wV (j + 1) (w + 1) a (p + 6) := ⟨i, hi, h1, Or.inr (Or.inr (Or.inr ⟨w, p, c, rfl, rfl, h2, h3, h4, h5, h6, h7, h8, h9, St⟩))⟩
end
def dm_pk (a : Nat) (pk : Int32) : Int32 := if nI (a + 1) ≤ pk then pk else nI (a + 1)
theorem dm_pkN {a q un D : Nat} (h1 : a ≤ q) (h2 : q ≤ un) (h3 : q ≤ D) (h4 : a < D) (h5 : D ≤ 8) : ∃ q2, dm_pk a (nI q) = nI q2 ∧ q ≤ q2 ∧ a + 1 ≤ q2 ∧ q2 ≤ un + 1 ∧ q2 ≤ D := by
  unfold dm_pk
  by_cases e : a + 1 ≤ q
  · exact ⟨q, if_pos (nI_le e (by omega)), by omega, by omega, by omega, by omega⟩
  · exact ⟨a + 1, if_neg (nI_ge (by omega) (by omega)), by omega, by omega, by omega, by omega⟩
end
section
theorem dm_ar_e {post : Int32 → Prop} {k : Int32} (a : Nat) (h : post (nI (dm_ar k))) (e : dm_ar k = a) : post (nI a) := e ▸ h
theorem dm_opn {o a : Nat} (h : 1 ≤ o) : nI o + (nI a - 1) = nI (o + a - 1) := by
  have e : nI o + (nI a - 1) = nI o + nI a - nI 1 := by
    show nI o + (nI a - 1) = nI o + nI a - 1
    grind
  rw [e, nI_add, pk_sub (by omega)]
def dm_kk (k : Int32) : Prop := ∃ q, 1 ≤ q ∧ q ≤ 16 ∧ k = nI q
theorem dm_kk1 {k : Int32} (h : dm_kk k) : ¬ k < 1 := by
  obtain ⟨q, h1, h2, rfl⟩ := h
  exact nI_nlt (b := 1) h1 (by omega)
theorem dm_kk16 {k : Int32} (h : dm_kk k) : ¬ 16 < k := by
  obtain ⟨q, h1, h2, rfl⟩ := h
  exact nI_nlt (a := 16) h2 (by omega)
theorem x_cc {post : Int32 → Prop} {k : Int32} (hk : dm_kk k) (h : post (nI (dm_ar k))) : wpX_childCount post () k := by
  refine br_f (dm_kk1 hk) ?_
  by_cases b : 13 < k
  · refine br_t b (dm_ar_e 2 h ?_)
    obtain ⟨q, h1, h2, rfl⟩ := hk
    have b2 : 13 < q := (nI_ltI (by omega) (by omega)).mp b
    rcases (show q = 14 ∨ q = 15 ∨ q = 16 by omega) with rfl | rfl | rfl <;> decide
  refine br_f b ?_
  by_cases c1 : k = 1
  · exact br_t c1 (dm_ar_e 0 h (by rw [c1]; decide))
  refine br_f c1 ?_
  by_cases c2 : k = 2
  · exact br_t c2 (dm_ar_e 0 h (by rw [c2]; decide))
  refine br_f c2 ?_
  by_cases c3 : k = 3
  · exact br_t c3 (dm_ar_e 2 h (by rw [c3]; decide))
  refine br_f c3 ?_
  by_cases c4 : k = 4
  · exact br_t c4 (dm_ar_e 2 h (by rw [c4]; decide))
  refine br_f c4 ?_
  by_cases c5 : k = 5
  · exact br_t c5 (dm_ar_e 2 h (by rw [c5]; decide))
  refine br_f c5 ?_
  by_cases c6 : k = 6
  · exact br_t c6 (dm_ar_e 2 h (by rw [c6]; decide))
  refine br_f c6 ?_
  by_cases c7 : k = 7
  · exact br_t c7 (dm_ar_e 2 h (by rw [c7]; decide))
  refine br_f c7 ?_
  by_cases c8 : k = 8
  · exact br_t c8 (dm_ar_e 2 h (by rw [c8]; decide))
  refine br_f c8 ?_
  by_cases c9 : k = 9
  · exact br_t c9 (dm_ar_e 3 h (by rw [c9]; decide))
  refine br_f c9 ?_
  by_cases c10 : k = 10
  · exact br_t c10 (dm_ar_e 2 h (by rw [c10]; decide))
  refine br_f c10 ?_
  by_cases c11 : k = 11
  · exact br_t c11 (dm_ar_e 1 h (by rw [c11]; decide))
  refine br_f c11 ?_
  by_cases c12 : k = 12
  · exact br_t c12 (dm_ar_e 1 h (by rw [c12]; decide))
  refine br_f c12 ?_
  by_cases c13 : k = 13
  · exact br_t c13 (dm_ar_e 1 h (by rw [c13]; decide))
  exact br_f c13 trivial
section
variable {kd na nb : Nat → Int32} {n : Nat}
theorem dm_Pgk {k : Nat} (P : dm_Pg kd na nb n) (hk : k < n) : dm_kk (kd k) := (P.2.2 k hk).1
end
theorem dm_clx (p : Int32) (M : Nat) (hM : 1 ≤ M) (hM2 : M < 1000) : ∃ j, 1 ≤ j ∧ j ≤ M ∧ ∀ A : Int32 → Prop, A (nI j) → ((1 ≤ p → ((p ≤ nI M → A p) ∧ (¬ p ≤ nI M → A (nI M)))) ∧ (¬ 1 ≤ p → A 1)) := by
  by_cases h : 1 ≤ p
  · by_cases h2 : p ≤ nI M
    · have h0 : ¬ p < 0 := Int32.not_lt.mpr (Int32.le_trans (by decide) h)
      obtain ⟨j, hj, rfl⟩ := nI_of h0
      exact ⟨j, (nI_leI (a := 1) (by omega) hj).mp h, (nI_leI hj (by omega)).mp h2, fun A a => br_t h (br_t h2 a)⟩
    · exact ⟨M, hM, Nat.le_refl _, fun A a => br_t h (br_f h2 a)⟩
  · exact ⟨1, Nat.le_refl _, hM, fun A a => br_f h a⟩
theorem dm_Pg0 (kd na nb : Nat → Int32) : dm_Pg kd na nb 0 := ⟨by omega, fun k h => absurd h (Nat.not_lt_zero k), fun k h => absurd h (Nat.not_lt_zero k)⟩
def dm_nm (x : Int32) : Prop := ¬ x < 0 ∧ ¬ 8 ≤ x
def dm_bad (k a b : Int32) : Prop := ((k = 2 ∨ k = 13 ∨ k = 14 ∨ k = 15) ∧ ¬ dm_nm a) ∨ (k = 15 ∧ ¬ dm_nm b)
theorem dm_nm_N {x : Int32} (h : dm_nm x) : ∃ y, y < 8 ∧ x = nI y := by
  obtain ⟨j, hj, rfl⟩ := nI_of h.1
  refine ⟨j, Nat.lt_of_not_le (fun z => h.2 (nI_le (a := 8) z hj)), rfl⟩
theorem x_isN {post : Int32 → Prop} {x : Int32} (h1 : dm_nm x → post 1) (h0 : ¬ dm_nm x → post 0) : wpX_isName post () x := by
  by_cases a : x < 0
  · exact br_t a (h0 (fun z => z.1 a))
  · by_cases b : 8 ≤ x
    · exact br_f a (br_t b (h0 (fun z => z.2 b)))
    · exact br_f a (br_f b (h1 ⟨a, b⟩))
theorem x_bad {post : Int32 → Prop} {k a b : Int32} (h1 : dm_bad k a b → post 1) (h0 : ¬ dm_bad k a b → post 0) : wpX_hasBadName post () k a b := by
  have one : (k = 2 ∨ k = 13 ∨ k = 14) → wX_hasBadName_44 post a := by
    intro hk
    refine x_isN (fun z => br_f (by decide) (h0 ?_)) (fun z => br_t rfl (h1 (Or.inl ⟨?_, z⟩)))
    · rintro (⟨_, g⟩ | ⟨g, _⟩)
      · exact g z
      · subst g
        rcases hk with hk | hk | hk <;> exact absurd hk (by decide)
    · rcases hk with hk | hk | hk
      · exact Or.inl hk
      · exact Or.inr (Or.inl hk)
      · exact Or.inr (Or.inr (Or.inl hk))
  by_cases c2 : k = 2
  · exact br_t c2 (one (Or.inl c2))
  refine br_f c2 ?_
  by_cases c13 : k = 13
  · exact br_t c13 (one (Or.inr (Or.inl c13)))
  refine br_f c13 ?_
  by_cases c14 : k = 14
  · exact br_t c14 (one (Or.inr (Or.inr c14)))
  refine br_f c14 ?_
  by_cases c15 : k = 15
  · refine br_t c15 (x_isN (fun z => br_f (by decide) (x_isN (fun w => br_f (by decide) (h0 ?_)) (fun w => br_t rfl (h1 (Or.inr ⟨c15, w⟩))))) (fun z => br_t rfl (h1 (Or.inl ⟨Or.inr (Or.inr (Or.inr c15)), z⟩))))
    rintro (⟨_, g⟩ | ⟨_, g⟩)
    · exact g z
    · exact g w
  · refine br_f c15 (h0 ?_)
    rintro (⟨g | g | g | g, _⟩ | ⟨g, _⟩)
    · exact c2 g
    · exact c13 g
    · exact c14 g
    · exact c15 g
    · exact c15 g
theorem dm_Pg_s {kd na nb : Nat → Int32} {n : Nat} {k a b : Int32} (P : dm_Pg kd na nb n) (hn : n < 32) (hO : ¬ dm_O kd n = 0) (hk : dm_kk k) (hb : ¬ dm_bad k a b) : dm_Pg (upd kd n k) (upd na n a) (upd nb n b) (n + 1) := by
  obtain ⟨p1, p2, p3⟩ := P
  refine ⟨by omega, fun j hj => ?_, fun j hj => ?_⟩
  · have e : dm_O (upd kd n k) j = dm_O kd j := dm_O_c j (fun i hi => pk_un (by omega))
    rw [e]
    rcases Nat.eq_or_lt_of_le (show j ≤ n by omega) with z | z
    · subst z
      omega
    · exact p2 j z
  · rcases Nat.eq_or_lt_of_le (show j ≤ n by omega) with z | z
    · subst z
      rw [pk_us, pk_us, pk_us]
      refine ⟨hk, fun h => dm_nm_N (Classical.not_not.mp (fun g => hb (Or.inl ⟨h, g⟩))), fun h => dm_nm_N (Classical.not_not.mp (fun g => hb (Or.inr ⟨h, g⟩)))⟩
    · rw [pk_un (by omega), pk_un (by omega), pk_un (by omega)]
      exact p3 j z
theorem dm_O_s {kd : Nat → Int32} {n : Nat} {k : Int32} : dm_O (upd kd n k) (n + 1) = dm_O kd n + dm_ar k - 1 := by
  rw [dm_Os, pk_us, dm_O_c (kd' := kd) n (fun i hi => pk_un (by omega))]
def dm_kB (k : Int32) : Prop := k = 3 ∨ k = 4 ∨ k = 5 ∨ k = 6 ∨ k = 7 ∨ k = 8
theorem dm_kF_n {k : Int32} (h : dm_kF k) : ¬ k = 1 ∧ ¬ k = 2 ∧ ¬ k = 13 ∧ ¬ k = 15 := by
  rcases h with rfl | rfl | rfl | rfl | rfl | rfl | rfl | rfl | rfl | rfl | rfl | rfl <;> decide
theorem dm_kB_n {k : Int32} (h : dm_kB k) : ¬ k = 1 ∧ ¬ k = 2 ∧ ¬ k = 13 ∧ ¬ k = 15 ∧ ¬ k = 9 ∧ ¬ k = 11 ∧ ¬ k = 12 ∧ ¬ k = 14 ∧ ¬ k = 16 ∧ ¬ k = 10 := by
  rcases h with rfl | rfl | rfl | rfl | rfl | rfl <;> decide
theorem dm_kS_n {k : Int32} (h : dm_kS k) : ¬ k = 1 ∧ ¬ k = 2 ∧ ¬ k = 13 ∧ ¬ k = 15 ∧ ¬ k = 9 ∧ ¬ k = 11 ∧ ¬ k = 12 ∧ ¬ k = 14 := by
  rcases h with rfl | rfl | rfl | rfl | rfl | rfl | rfl | rfl <;> decide
def dm_bin (k a b : Int32) : Int32 := if k = 3 then a + b else if k = 4 then a - b else if k = 5 then a * b else if k = 6 then a / b else if k = 7 then (if b ≤ a then 0 else 1) else (if a = b then 1 else 0)
end
section
/-! X's compile -/
theorem dm_one : ∀ y, y < 8 → ∀ x, x < 32 → bt ((1 : Int32) <<< (nI y &&& 31)) x = decide (x = y) := by decide +kernel
theorem dm_not (w : Int32) {x : Nat} (hx : x < 32) : bt (w ^^^ (-1)) x = !bt w x := by
  rw [b_xor, b_m1 x hx]
  cases bt w x <;> rfl
theorem dm_nIe {x y : Nat} (hx : x < 32) (hy : y < 32) : nI y = nI x ↔ x = y := by
  rw [nI_eq (by omega) (by omega)]
  exact eq_comm
def dm_fl (kd na nb fn : Nat → Int32) (l : Nat) : Int32 := fn (l + 1) &&& ((if kd l = 15 then ((1 : Int32) <<< (na l &&& 31)) ||| ((1 : Int32) <<< (nb l &&& 31)) else ((1 : Int32) <<< (na l &&& 31))) ^^^ (-1))
noncomputable def dm_fu (kd na fn : Nat → Int32) (i : Nat) : Int32 := fn (dm_ch kd i 1) &&& (((1 : Int32) <<< (na i &&& 31)) ^^^ (-1))
section
variable {kd na nb fn : Nat → Int32} {n i x : Nat}
theorem dm_fl_b (P : dm_Pg kd na nb n) (hi : i < n) (hk : kd i = 13 ∨ kd i = 15) (hx : x < 32) : bt (dm_fl kd na nb fn i) x = true ↔ bt (fn (i + 1)) x = true ∧ ¬ dm_bd kd na nb i 0 (nI x) := by
  obtain ⟨_, pa, pb⟩ := P.2.2 i hi
  obtain ⟨y, hy, ey⟩ := pa (by rcases hk with h | h <;> simp [h])
  unfold dm_fl
  rw [b_and, dm_not _ hx]
  rcases hk with h | h
  · rw [if_neg (by rw [h]; decide), ey, dm_one y hy x hx]
    have e : dm_bd kd na nb i 0 (nI x) ↔ x = y := by
      unfold dm_bd
      rw [h, ey, dm_nIe hx (by omega)]
      constructor
      · rintro (⟨_, _, g⟩ | ⟨g, _⟩ | ⟨g, _⟩)
        · exact g
        · exact absurd g (by decide)
        · exact absurd g (by decide)
      · exact fun g => Or.inl ⟨rfl, rfl, g⟩
    rw [e]
    simp
  · obtain ⟨z, hz, ez⟩ := pb h
    rw [if_pos h, ey, ez, b_or, dm_one y hy x hx, dm_one z hz x hx]
    have e : dm_bd kd na nb i 0 (nI x) ↔ (x = y ∨ x = z) := by
      unfold dm_bd
      rw [h, ey, ez, dm_nIe hx (by omega), dm_nIe hx (by omega)]
      constructor
      · rintro (⟨g, _⟩ | ⟨g, _⟩ | ⟨_, ⟨_, g⟩ | ⟨g, _⟩⟩)
        · exact absurd g (by decide)
        · exact absurd g (by decide)
        · exact g
        · omega
      · exact fun g => Or.inr (Or.inr ⟨rfl, Or.inl ⟨rfl, g⟩⟩)
    rw [e]
    simp
theorem dm_fu_b (P : dm_Pg kd na nb n) (hi : i < n) (hk : kd i = 14 ∨ kd i = 15) (hx : x < 32) : bt (dm_fu kd na fn i) x = true ↔ bt (fn (dm_ch kd i 1)) x = true ∧ ¬ dm_bd kd na nb i 1 (nI x) := by
  obtain ⟨_, pa, pb⟩ := P.2.2 i hi
  obtain ⟨y, hy, ey⟩ := pa (by rcases hk with h | h <;> simp [h])
  unfold dm_fu
  rw [b_and, dm_not _ hx, ey, dm_one y hy x hx]
  have e : dm_bd kd na nb i 1 (nI x) ↔ x = y := by
    unfold dm_bd
    rw [ey, dm_nIe hx (by omega)]
    constructor
    · rintro (⟨_, g, _⟩ | ⟨_, _, g⟩ | ⟨_, ⟨g, _⟩ | ⟨_, g⟩⟩)
      · omega
      · exact g
      · omega
      · exact g
    · intro g
      rcases hk with h | h
      · exact Or.inr (Or.inl ⟨h, rfl, g⟩)
      · exact Or.inr (Or.inr ⟨h, Or.inr ⟨rfl, g⟩⟩)
  rw [e]
  simp
/-- what freeNames holds at one node -/
def dm_FNi (kd na nb fn : Nat → Int32) (i : Nat) (w : Int32) : Prop := ∀ x, x < 32 → (bt w x = true ↔ ((kd i = 2 ∧ na i = nI x) ∨ ∃ c, c < dm_ar (kd i) ∧ bt (fn (dm_ch kd i c)) x = true ∧ ¬ dm_bd kd na nb i c (nI x)))
theorem dm_FNi_var (P : dm_Pg kd na nb n) (hi : i < n) (hk : kd i = 2) : dm_FNi kd na nb fn i ((1 : Int32) <<< (na i &&& 31)) := by
  obtain ⟨_, pa, pb⟩ := P.2.2 i hi
  obtain ⟨y, hy, ey⟩ := pa (Or.inl hk)
  intro x hx
  rw [ey, dm_one y hy x hx, dm_nIe hx (by omega)]
  have ea : dm_ar (kd i) = 0 := by
    rw [hk]
    decide
  rw [ea]
  constructor
  · intro g
    exact Or.inl ⟨hk, of_decide_eq_true g⟩
  · rintro (⟨_, g⟩ | ⟨c, g, _⟩)
    · exact decide_eq_true g
    · omega
theorem dm_FNi_fun (P : dm_Pg kd na nb n) (hi : i < n) (hk : kd i = 13) : dm_FNi kd na nb fn i (dm_fl kd na nb fn i) := by
  intro x hx
  rw [dm_fl_b P hi (Or.inl hk) hx]
  have ea : dm_ar (kd i) = 1 := by
    rw [hk]
    decide
  rw [ea]
  constructor
  · exact fun g => Or.inr ⟨0, by omega, g.1, g.2⟩
  · rintro (⟨g, _⟩ | ⟨c, g, g2⟩)
    · rw [hk] at g
      exact absurd g (by decide)
    · have : c = 0 := by omega
      subst this
      exact g2
theorem dm_FNi_let (P : dm_Pg kd na nb n) (hi : i < n) (hk : kd i = 14) : dm_FNi kd na nb fn i (fn (i + 1) ||| dm_fu kd na fn i) := by
  intro x hx
  have ea : dm_ar (kd i) = 2 := by
    rw [hk]
    decide
  have nb0 : ¬ dm_bd kd na nb i 0 (nI x) := by
    unfold dm_bd
    rw [hk]
    rintro (⟨g, _⟩ | ⟨_, g, _⟩ | ⟨g, _⟩)
    · exact absurd g (by decide)
    · omega
    · exact absurd g (by decide)
  rw [b_or, Bool.or_eq_true, dm_fu_b P hi (Or.inl hk) hx, ea]
  constructor
  · rintro (g | g)
    · exact Or.inr ⟨0, by omega, g, nb0⟩
    · exact Or.inr ⟨1, by omega, g.1, g.2⟩
  · rintro (⟨g, _⟩ | ⟨c, g, g2⟩)
    · rw [hk] at g
      exact absurd g (by decide)
    · rcases (show c = 0 ∨ c = 1 by omega) with e | e
      · subst e
        exact Or.inl g2.1
      · subst e
        exact Or.inr g2
theorem dm_FNi_rec (P : dm_Pg kd na nb n) (hi : i < n) (hk : kd i = 15) : dm_FNi kd na nb fn i (dm_fl kd na nb fn i ||| dm_fu kd na fn i) := by
  intro x hx
  have ea : dm_ar (kd i) = 2 := by
    rw [hk]
    decide
  rw [b_or, Bool.or_eq_true, dm_fl_b P hi (Or.inr hk) hx, dm_fu_b P hi (Or.inr hk) hx, ea]
  constructor
  · rintro (g | g)
    · exact Or.inr ⟨0, by omega, g.1, g.2⟩
    · exact Or.inr ⟨1, by omega, g.1, g.2⟩
  · rintro (⟨g, _⟩ | ⟨c, g, g2⟩)
    · rw [hk] at g
      exact absurd g (by decide)
    · rcases (show c = 0 ∨ c = 1 by omega) with e | e
      · subst e
        exact Or.inl g2
      · subst e
        exact Or.inr g2
theorem dm_FNi_oth {w : Int32} (k2 : ¬ kd i = 2) (k13 : ¬ kd i = 13) (k14 : ¬ kd i = 14) (k15 : ¬ kd i = 15) (h : ∀ x, x < 32 → (bt w x = true ↔ ∃ c, c < dm_ar (kd i) ∧ bt (fn (dm_ch kd i c)) x = true)) : dm_FNi kd na nb fn i w := by
  intro x hx
  have nb0 : ∀ c, ¬ dm_bd kd na nb i c (nI x) := by
    intro c
    rintro (⟨g, _⟩ | ⟨g, _⟩ | ⟨g, _⟩)
    · exact k13 g
    · exact k14 g
    · exact k15 g
  rw [h x hx]
  constructor
  · rintro ⟨c, g1, g2⟩
    exact Or.inr ⟨c, g1, g2, nb0 c⟩
  · rintro (⟨g, _⟩ | ⟨c, g1, g2, _⟩)
    · exact absurd g k2
    · exact ⟨c, g1, g2⟩
end
section
variable {xB xD xn xo xc xl oc xu xa pk xw en cn cb : Int32} {xr cv : Int64} {se fn tg tn cT cB wN wF wB : Nat → Int32} {pF pS bo wV : Nat → Int64} {kd na nb : Nat → Int32} {n i : Nat}
theorem x_meas17 {post : St2 → Prop} (P : dm_Pg kd na nb n) (T : dm_Tr kd n) (hi : i < n) (S : ∀ j, i < j → j < n → se j = nI (dm_E kd j)) (h : post (xB, xD, xn, xo, xc, xl, oc, xu, xa, pk, xr, xw, en, cn, cb, cv, kd, na, nb, upd se i (nI (dm_E kd i)), fn, tg, tn, pF, pS, cT, cB, bo, wN, wF, wB, wV)) : ∀ d c, c + d = dm_ar (kd i) → wX_measureSubtree_17 post (nI i) (nI (dm_ar (kd i))) xB xD xn xo xc xl oc xu xa pk xr xw en cn cb cv kd na nb se fn tg tn pF pS cT cB bo wN wF wB wV (d + 1) (nI (dm_ch kd i c)) (nI c) := by
  have hn := P.1
  have h3 := dm_ar3 (kd i)
  intro d
  induction d with
  | zero =>
    intro c hc
    have e : c = dm_ar (kd i) := by omega
    subst e
    rw [← dm_ch_E T hi]
    refine br_t (nI_le (Nat.le_refl _) (by omega)) ⟨vp_in_nI (by omega) (by omega), ?_⟩
    rw [nI_clamp (by omega)]
    exact nm_e h
  | succ d ih =>
    intro c hc
    have hl := dm_ch_lt T hi (c := c) (by omega)
    have hg := dm_ch_gt T hi (c := c) (by omega)
    refine br_f (nI_ge (by omega) (by omega)) ⟨vp_in_nI (by omega) (by omega), nm_r ?_ (nm_r (nI_1 c) (ih (c + 1) (by omega)))⟩
    rw [nI_clamp (by omega), S _ hg hl, dm_chs]
theorem x_meas {post : St2 → Prop} (P : dm_Pg kd na nb n) (T : dm_Tr kd n) (hi : i < n) (S : ∀ j, i < j → j < n → se j = nI (dm_E kd j)) (h : post (xB, xD, xn, xo, xc, xl, oc, xu, xa, pk, xr, xw, en, cn, cb, cv, kd, na, nb, upd se i (nI (dm_E kd i)), fn, tg, tn, pF, pS, cT, cB, bo, wN, wF, wB, wV)) : wpX_measureSubtree post (xB, xD, xn, xo, xc, xl, oc, xu, xa, pk, xr, xw, en, cn, cb, cv, kd, na, nb, se, fn, tg, tn, pF, pS, cT, cB, bo, wN, wF, wB, wV) (nI i) := by
  have hn := P.1
  refine ⟨vp_in_nI (by omega) (by omega), ?_⟩
  rw [nI_clamp (by omega)]
  refine x_cc (dm_Pgk P hi) (nm_r (nI_1 i) ⟨dm_ar (kd i) + 1, ?_⟩)
  exact x_meas17 P T hi S h (dm_ar (kd i)) 0 (by omega)
theorem x_fl {post : Int32 → Prop} {l : Nat} (hl : l + 1 < 32) (h : post (dm_fl kd na nb fn l)) : wpX_freeInLambda post (xB, xD, xn, xo, xc, xl, oc, xu, xa, pk, xr, xw, en, cn, cb, cv, kd, na, nb, se, fn, tg, tn, pF, pS, cT, cB, bo, wN, wF, wB, wV) (nI l) := by
  have hin : vp_in (nI l) 32 := vp_in_nI (by omega) (by omega)
  have hin2 : vp_in (nI l + 1) 32 := by
    rw [nI_1]
    exact vp_in_nI (by omega) (by omega)
  refine ⟨hin, ?_⟩
  rw [nI_clamp (by omega)]
  refine nm_e ⟨hin, ?_⟩
  unfold dm_fl at h
  by_cases c : kd l = 15
  · rw [if_pos c] at h
    refine br_t c ⟨hin, nm_e ⟨hin2, ?_⟩⟩
    rw [nI_1, nI_clamp (by omega)]
    exact h
  · rw [if_neg c] at h
    refine br_f c ⟨hin2, ?_⟩
    rw [nI_1, nI_clamp (by omega)]
    exact h
theorem x_sec {post : Int32 → Prop} (hn : n ≤ 32) (hi : i + 1 < n) (S : se (i + 1) = nI (dm_E kd (i + 1))) (h : post (nI (dm_ch kd i 1))) : wpX_secondChild post (xB, xD, xn, xo, xc, xl, oc, xu, xa, pk, xr, xw, en, cn, cb, cv, kd, na, nb, se, fn, tg, tn, pF, pS, cT, cB, bo, wN, wF, wB, wV) (nI i) := by
  refine ⟨?_, ?_⟩
  · rw [nI_1]
    exact vp_in_nI (by omega) (by omega)
  · rw [nI_1, nI_clamp (by omega), S]
    exact h
theorem x_fu {post : Int32 → Prop} (P : dm_Pg kd na nb n) (T : dm_Tr kd n) (hi : i < n) (ha : dm_ar (kd i) = 2) (S : ∀ j, i < j → j < n → se j = nI (dm_E kd j)) (h : post (dm_fu kd na fn i)) : wpX_freeUnderBinding post (xB, xD, xn, xo, xc, xl, oc, xu, xa, pk, xr, xw, en, cn, cb, cv, kd, na, nb, se, fn, tg, tn, pF, pS, cT, cB, bo, wN, wF, wB, wV) (nI i) := by
  have hn := P.1
  have h0 := dm_ch_lt T hi (c := 0) (by omega)
  have h1 := dm_ch_lt T hi (c := 1) (by omega)
  rw [dm_ch0] at h0
  unfold wpX_freeUnderBinding
  refine x_sec hn h0 (S _ (by omega) h0) ⟨vp_in_nI (by omega) (by omega), vp_in_nI (by omega) (by omega), ?_⟩
  rw [nI_clamp (by omega), nI_clamp (by omega)]
  exact h
theorem x_fc20 {post : Int32 → Prop} (P : dm_Pg kd na nb n) (T : dm_Tr kd n) (hi : i < n) (S : ∀ j, i < j → j < n → se j = nI (dm_E kd j)) (h : ∀ w, (∀ x, x < 32 → (bt w x = true ↔ ∃ c, c < dm_ar (kd i) ∧ bt (fn (dm_ch kd i c)) x = true)) → post w) : ∀ d c w, c + d = dm_ar (kd i) → (∀ x, x < 32 → (bt w x = true ↔ ∃ c', c' < c ∧ bt (fn (dm_ch kd i c')) x = true)) → wX_freeInChildren_20 post (nI (dm_ar (kd i))) xB xD xn xo xc xl oc xu xa pk xr xw en cn cb cv kd na nb se fn tg tn pF pS cT cB bo wN wF wB wV (d + 1) w (nI (dm_ch kd i c)) (nI c) := by
  have hn := P.1
  have h3 := dm_ar3 (kd i)
  intro d
  induction d with
  | zero =>
    intro c w hc hw
    have e : c = dm_ar (kd i) := by omega
    subst e
    exact br_t (nI_le (Nat.le_refl _) (by omega)) (h w hw)
  | succ d ih =>
    intro c w hc hw
    have hl := dm_ch_lt T hi (c := c) (by omega)
    have hg := dm_ch_gt T hi (c := c) (by omega)
    have hin : vp_in (nI (dm_ch kd i c)) 32 := vp_in_nI (by omega) (by omega)
    refine br_f (nI_ge (by omega) (by omega)) ⟨hin, ?_⟩
    rw [nI_clamp (by omega), S _ hg hl]
    refine nm_e ⟨hin, nm_e (nm_r (nI_1 c) (ih (c + 1) _ (by omega) (fun x hx => ?_)))⟩
    rw [b_or, Bool.or_eq_true, hw x hx]
    constructor
    · rintro (⟨c', g1, g2⟩ | g)
      · exact ⟨c', by omega, g2⟩
      · exact ⟨c, by omega, g⟩
    · rintro ⟨c', g1, g2⟩
      rcases Nat.eq_or_lt_of_le (show c' ≤ c by omega) with z | z
      · subst z
        exact Or.inr g2
      · exact Or.inl ⟨c', z, g2⟩
theorem x_fn {post : Int32 → Prop} (P : dm_Pg kd na nb n) (T : dm_Tr kd n) (hi : i < n) (S : ∀ j, i < j → j < n → se j = nI (dm_E kd j)) (h : ∀ w, dm_FNi kd na nb fn i w → post w) : wpX_freeInNode post (xB, xD, xn, xo, xc, xl, oc, xu, xa, pk, xr, xw, en, cn, cb, cv, kd, na, nb, se, fn, tg, tn, pF, pS, cT, cB, bo, wN, wF, wB, wV) (nI i) := by
  have hn := P.1
  have hin : vp_in (nI i) 32 := vp_in_nI (by omega) (by omega)
  refine ⟨hin, ?_⟩
  rw [nI_clamp (by omega)]
  refine nm_e ?_
  by_cases k2 : kd i = 2
  · exact br_t k2 ⟨hin, h _ (dm_FNi_var P hi k2)⟩
  refine br_f k2 ?_
  by_cases k13 : kd i = 13
  · have h0 := dm_ch_lt T hi (c := 0) (by rw [k13]; decide)
    rw [dm_ch0] at h0
    exact br_t k13 (x_fl (by omega) (h _ (dm_FNi_fun P hi k13)))
  refine br_f k13 ?_
  by_cases k14 : kd i = 14
  · have h0 := dm_ch_lt T hi (c := 0) (by rw [k14]; decide)
    rw [dm_ch0] at h0
    refine br_t k14 ⟨?_, ?_⟩
    · rw [nI_1]
      exact vp_in_nI (by omega) (by omega)
    · refine x_fu P T hi (by rw [k14]; decide) S ?_
      rw [nI_1, nI_clamp (by omega)]
      exact h _ (dm_FNi_let P hi k14)
  refine br_f k14 ?_
  by_cases k15 : kd i = 15
  · have h0 := dm_ch_lt T hi (c := 0) (by rw [k15]; decide)
    rw [dm_ch0] at h0
    refine br_t k15 (x_fl (by omega) (x_fu P T hi (by rw [k15]; decide) S (h _ (dm_FNi_rec P hi k15))))
  refine br_f k15 ⟨hin, ?_⟩
  rw [nI_clamp (by omega)]
  refine x_cc (dm_Pgk P hi) (nm_r (nI_1 i) ⟨dm_ar (kd i) + 1, ?_⟩)
  refine x_fc20 P T hi S (fun w hw => h w (dm_FNi_oth k2 k13 k14 k15 hw)) (dm_ar (kd i)) 0 0 (by omega) (fun x hx => ?_)
  rw [b_0]
  constructor
  · intro g
    exact absurd g (by decide)
  · rintro ⟨c', g, _⟩
    omega
theorem x_ana7 {post : St2 → Prop} (P : dm_Pg kd na nb n) (T : dm_Tr kd n) : ∀ (d : Nat) (se fn : Nat → Int32), d ≤ n → (∀ j, d ≤ j → j < n → se j = nI (dm_E kd j)) → (∀ j, d ≤ j → j < n → dm_FNi kd na nb fn j (fn j)) → (∀ se' fn', (∀ j, j < n → se' j = nI (dm_E kd j)) → dm_FN kd na nb n fn' → post (xB, xD, xn, xo, xc, xl, oc, xu, xa, pk, xr, xw, en, cn, cb, cv, kd, na, nb, se', fn', tg, tn, pF, pS, cT, cB, bo, wN, wF, wB, wV)) → wX_analyse_7 post (d + 1) (nI d - 1) xB xD xn xo xc xl oc xu xa pk xr xw en cn cb cv kd na nb se fn tg tn pF pS cT cB bo wN wF wB wV := by
  have hn := P.1
  intro d
  induction d with
  | zero =>
    intro se fn _ h1 h2 h
    exact br_t (by decide) (h se fn (fun j hj => h1 j (by omega) hj) (fun j hj => h2 j (by omega) hj))
  | succ d ih =>
    intro se fn hd h1 h2 h
    rw [nI_pred]
    refine br_f (nI_pos (by omega)) (x_meas P T (by omega) (fun j hj hjn => h1 j hj hjn) ?_)
    have h1' : ∀ j, d ≤ j → j < n → upd se d (nI (dm_E kd d)) j = nI (dm_E kd j) := by
      intro j h3 h4
      rcases Nat.eq_or_lt_of_le h3 with z | z
      · subst z
        rw [pk_us]
      · rw [pk_un (by omega), h1 j z h4]
    refine x_fn P T (i := d) (by omega) (fun j hj hjn => h1' j (by omega) hjn) (fun w hw => ⟨vp_in_nI (by omega) (by omega), ?_⟩)
    rw [nI_clamp (by omega)]
    refine nm_e (nm_r (show nI d + (-1) = nI d - 1 by grind) (ih (upd se d (nI (dm_E kd d))) (upd fn d w) (by omega) h1' (fun j h3 h4 => ?_) h))
    have key : ∀ c, c < dm_ar (kd j) → upd fn d w (dm_ch kd j c) = fn (dm_ch kd j c) := by
      intro c hc
      have := dm_ch_gt T h4 (Nat.le_of_lt hc)
      exact pk_un (by omega)
    have tr : ∀ w', dm_FNi kd na nb fn j w' → dm_FNi kd na nb (upd fn d w) j w' := by
      intro w' g x hx
      rw [g x hx]
      constructor
      · rintro (g1 | ⟨c, g1, g2, g3⟩)
        · exact Or.inl g1
        · exact Or.inr ⟨c, g1, by rw [key c g1]; exact g2, g3⟩
      · rintro (g1 | ⟨c, g1, g2, g3⟩)
        · exact Or.inl g1
        · exact Or.inr ⟨c, g1, by rw [key c g1] at g2; exact g2, g3⟩
    rcases Nat.eq_or_lt_of_le h3 with z | z
    · subst z
      rw [pk_us]
      exact tr w hw
    · rw [pk_un (by omega)]
      exact tr _ (h2 j z h4)
theorem x_ana {post : St2 → Prop} (P : dm_Pg kd na nb n) (T : dm_Tr kd n) (h : ∀ se' fn', (∀ j, j < n → se' j = nI (dm_E kd j)) → dm_FN kd na nb n fn' → post (xB, xD, nI n, xo, xc, xl, oc, xu, xa, pk, xr, xw, en, cn, cb, cv, kd, na, nb, se', fn', tg, tn, pF, pS, cT, cB, bo, wN, wF, wB, wV)) : wpX_analyse post (xB, xD, nI n, xo, xc, xl, oc, xu, xa, pk, xr, xw, en, cn, cb, cv, kd, na, nb, se, fn, tg, tn, pF, pS, cT, cB, bo, wN, wF, wB, wV) := by
  refine nm_e ⟨n + 1, ?_⟩
  exact x_ana7 P T n se fn (Nat.le_refl _) (fun j h1 h2 => by omega) (fun j h1 h2 => by omega) h
theorem x_tag7 {post : St2 → Prop} (P : dm_Pg kd na nb n) : ∀ (d k : Nat) (tg tn : Nat → Int32), k + d = n → (∀ i, i < k → (kd i = 13 ∨ kd i = 15) → tg i = nI (dm_cnt kd i) ∧ tn (dm_cnt kd i) = nI i) → (∀ tg' tn', (∀ i, i < n → (kd i = 13 ∨ kd i = 15) → tg' i = nI (dm_cnt kd i) ∧ tn' (dm_cnt kd i) = nI i) → post (xB, xD, nI n, xo, xc, nI (dm_cnt kd n), oc, xu, xa, pk, xr, xw, en, cn, cb, cv, kd, na, nb, se, fn, tg', tn', pF, pS, cT, cB, bo, wN, wF, wB, wV)) →
    wX_giveTags_7 post xB xD (nI n) xo xc oc xu xa pk xr xw en cn cb cv (d + 1) (nI k) (nI (dm_cnt kd k)) kd na nb se fn tg tn pF pS cT cB bo wN wF wB wV := by
  have hn := P.1
  intro d
  induction d with
  | zero =>
    intro k tg tn hk h1 h
    have e : k = n := by omega
    subst e
    exact br_t (nI_le (Nat.le_refl _) (by omega)) (h tg tn h1)
  | succ d ih =>
    intro k tg tn hk h1 h
    have hin : vp_in (nI k) 32 := vp_in_nI (by omega) (by omega)
    have hcl := dm_cnt_le kd k
    refine br_f (nI_ge (by omega) (by omega)) ⟨hin, ?_⟩
    have lam : (kd k = 13 ∨ kd k = 15) → wX_giveTags_37 post (wX_giveTags_7 post xB xD (nI n) xo xc oc xu xa pk xr xw en cn cb cv (d + 1)) (nI k) xB xD (nI n) xo xc (nI (dm_cnt kd k)) oc xu xa pk xr xw en cn cb cv kd na nb se fn tg tn pF pS cT cB bo wN wF wB wV := by
      intro hl
      refine ⟨hin, ?_⟩
      rw [nI_clamp (by omega)]
      refine nm_e ⟨vp_in_nI (by omega) (by omega), ?_⟩
      rw [nI_clamp (by omega)]
      refine nm_e (nm_r (nI_1 _) (nm_r (nI_1 k) ?_))
      rw [← dm_cnt_t hl]
      refine ih (k + 1) _ _ (by omega) (fun i hi hil => ?_) h
      rcases Nat.eq_or_lt_of_le (show i ≤ k by omega) with z | z
      · subst z
        rw [pk_us, pk_us]
        exact ⟨rfl, rfl⟩
      · have := dm_cnt_lt z hil
        rw [pk_un (by omega), pk_un (by omega)]
        exact h1 i z hil
    rw [nI_clamp (by omega)]
    by_cases k13 : kd k = 13
    · exact br_t k13 (lam (Or.inl k13))
    refine br_f k13 ⟨hin, ?_⟩
    by_cases k15 : kd k = 15
    · exact br_t k15 (lam (Or.inr k15))
    refine br_f k15 (nm_r (nI_1 k) ?_)
    have nl : ¬ (kd k = 13 ∨ kd k = 15) := fun z => z.elim k13 k15
    rw [← dm_cnt_f nl]
    refine ih (k + 1) tg tn (by omega) (fun i hi hil => ?_) h
    rcases Nat.eq_or_lt_of_le (show i ≤ k by omega) with z | z
    · subst z
      exact absurd hil nl
    · exact h1 i z hil
theorem x_tag {post : St2 → Prop} (P : dm_Pg kd na nb n) (h : ∀ tg' tn', (∀ i, i < n → (kd i = 13 ∨ kd i = 15) → tg' i = nI (dm_cnt kd i) ∧ tn' (dm_cnt kd i) = nI i) → post (xB, xD, nI n, xo, xc, nI (dm_cnt kd n), oc, xu, xa, pk, xr, xw, en, cn, cb, cv, kd, na, nb, se, fn, tg', tn', pF, pS, cT, cB, bo, wN, wF, wB, wV)) : wpX_giveTags post (xB, xD, nI n, xo, xc, xl, oc, xu, xa, pk, xr, xw, en, cn, cb, cv, kd, na, nb, se, fn, tg, tn, pF, pS, cT, cB, bo, wN, wF, wB, wV) := by
  refine ⟨n + 1, ?_⟩
  exact x_tag7 P n 0 tg tn (by omega) (fun i hi => absurd hi (Nat.not_lt_zero i)) h
end
end
section
/-! the class's steps -/
section
variable {xB xD xn xo xc xl oc xu xa pk xw en cn cb : Int32} {xr cv : Int64} {kd na nb se fn tg tn cT cB wN wF wB : Nat → Int32} {pF pS bo wV : Nat → Int64} {w i c un B D a s t y : Nat}
theorem dm_at2 {g : Nat → Int32} {x : Int32} {j : Nat} (hj : j < 1000) (e : g j = x) : g (nI j).toNatClampNeg = x := by
  rw [nI_clamp (by omega)]
  exact e
theorem dm_atL {g : Nat → Int64} {j : Nat} (hj : j < 1000) : g (nI j).toNatClampNeg = g j := by
  rw [nI_clamp (by omega)]
theorem dm_up2 {g : Nat → Int32} {x : Int32} {j : Nat} (hj : j < 1000) : upd g (nI j).toNatClampNeg x = upd g j x := by
  rw [nI_clamp (by omega)]
theorem dm_upL {g : Nat → Int64} {x : Int64} {j : Nat} (hj : j < 1000) : vp_updL g (nI j).toNatClampNeg x = vp_updL g j x := by
  rw [nI_clamp (by omega)]
theorem dm_w32 {j : Nat} (h : j < 32) : vp_in (nI j) 32 := vp_in_nI h (by omega)
theorem dm_w65 {j : Nat} (h : j < 65) : vp_in (nI j) 65 := vp_in_nI h (by omega)
theorem dm_w288 {j : Nat} (h : j < 288) : vp_in (nI j) 288 := vp_in_nI h (by omega)
theorem dm_ix (s y : Nat) : (nI s * 8) + nI y = nI (s * 8 + y) := by
  show (nI s * nI 8) + nI y = _
  rw [pk_mul, nI_add]
theorem x_sp12 {post : Int32 → St2 → Prop} (h : post 12 (nI B, xD, xn, xo, xc, xl, oc, nI B, xa, pk, xr, xw, en, cn, cb, cv, kd, na, nb, se, fn, tg, tn, pF, pS, cT, cB, bo, wN, wF, wB, wV)) : wpX_spend post (nI B, xD, xn, xo, xc, xl, oc, nI B, xa, pk, xr, xw, en, cn, cb, cv, kd, na, nb, se, fn, tg, tn, pF, pS, cT, cB, bo, wN, wF, wB, wV) := br_t rfl h
theorem x_sp0 {post : Int32 → St2 → Prop} (hu : un < B) (hB : B ≤ 64) (h : post 0 (nI B, xD, xn, xo, xc, xl, oc, nI (un + 1), xa, pk, xr, xw, en, cn, cb, cv, kd, na, nb, se, fn, tg, tn, pF, pS, cT, cB, bo, wN, wF, wB, wV)) : wpX_spend post (nI B, xD, xn, xo, xc, xl, oc, nI un, xa, pk, xr, xw, en, cn, cb, cv, kd, na, nb, se, fn, tg, tn, pF, pS, cT, cB, bo, wN, wF, wB, wV) :=
  br_f (fun e => by have := (nI_eq (by omega) (by omega)).mp e; omega) (nm_r (nI_1 un) h)
theorem x_mkc {post : Int64 → St2 → Prop} {p1 : Int32} (hi : i < 32) (hu : un < 65) (h : post (dm_val 3 (nI un)) (xB, xD, xn, xo, xc, xl, oc, nI un, xa, pk, xr, xw, en, cn, cb, cv, kd, na, nb, se, fn, tg, tn, pF, pS, upd cT un (tg i), upd cB un p1, bo, wN, wF, wB, wV)) : wpX_makeClosure post (xB, xD, xn, xo, xc, xl, oc, nI un, xa, pk, xr, xw, en, cn, cb, cv, kd, na, nb, se, fn, tg, tn, pF, pS, cT, cB, bo, wN, wF, wB, wV) (nI i) p1 := by
  refine ⟨dm_w32 hi, dm_w65 hu, ?_⟩
  rw [nI_clamp (show i < 2 ^ 31 by omega)]
  exact nm_r (dm_up2 (by omega)) ⟨dm_w65 hu, nm_r (dm_up2 (by omega)) h⟩
theorem x_cp2 {post : St2 → Prop} (hst : s < t) (ht : t < 65) (h : post (xB, xD, xn, xo, xc, xl, oc, xu, xa, pk, xr, xw, en, cn, cb, cv, kd, na, nb, se, fn, tg, tn, pF, pS, cT, cB, dm_cp bo s t 8, wN, wF, wB, wV)) : ∀ d k, k + d = 8 → wX_copyBindings_2 post (nI s) (nI t) xB xD xn xo xc xl oc xu xa pk xr xw en cn cb cv (d + 1) (nI k) kd na nb se fn tg tn pF pS cT cB (dm_cp bo s t k) wN wF wB wV := by
  intro d
  induction d with
  | zero =>
    intro k hk
    have e : k = 8 := by omega
    subst e
    exact br_t (nI_le (a := 8) (Nat.le_refl _) (by omega)) h
  | succ d ih =>
    intro k hk
    refine br_f (nI_ge (b := 8) (by omega) (by omega)) ⟨?_, ?_, ?_⟩
    · rw [dm_ix]
      exact vp_in_nI (by omega) (by omega)
    · rw [dm_ix]
      exact vp_in_nI (by omega) (by omega)
    · refine nm_r (show _ = dm_cp bo s t (k + 1) from ?_) (nm_r (nI_1 k) (ih (k + 1) (by omega)))
      rw [dm_ix, dm_ix, nI_clamp (by omega), nI_clamp (by omega)]
      exact dm_cps hst (by omega)
theorem x_copy {post : St2 → Prop} (hst : s < t) (ht : t < 65) (h : post (xB, xD, xn, xo, xc, xl, oc, xu, xa, pk, xr, xw, en, cn, cb, cv, kd, na, nb, se, fn, tg, tn, pF, pS, cT, cB, dm_cp bo s t 8, wN, wF, wB, wV)) : wpX_copyBindings post (xB, xD, xn, xo, xc, xl, oc, xu, xa, pk, xr, xw, en, cn, cb, cv, kd, na, nb, se, fn, tg, tn, pF, pS, cT, cB, bo, wN, wF, wB, wV) (nI s) (nI t) := by
  refine ⟨8 + 1, ?_⟩
  have g := x_cp2 hst ht h 8 0 (by omega)
  rw [dm_cp0] at g
  exact g
theorem x_bnd {post : St2 → Prop} {v : Int64} (ht : t < 65) (hy : y < 8) (h : post (xB, xD, xn, xo, xc, xl, oc, xu, xa, pk, xr, xw, en, cn, cb, cv, kd, na, nb, se, fn, tg, tn, pF, pS, cT, cB, vp_updL bo (t * 8 + y) v, wN, wF, wB, wV)) : wpX_bind post (xB, xD, xn, xo, xc, xl, oc, xu, xa, pk, xr, xw, en, cn, cb, cv, kd, na, nb, se, fn, tg, tn, pF, pS, cT, cB, bo, wN, wF, wB, wV) (nI t) (nI y) v := by
  refine ⟨?_, ?_⟩
  · rw [dm_ix]
    exact vp_in_nI (by omega) (by omega)
  · refine nm_r ?_ h
    rw [dm_ix, nI_clamp (by omega)]
/-! entering -/
theorem x_ef12 {post : Int32 → St2 → Prop} {q : Int32} (h : post 12 (nI B, xD, xn, xo, xc, xl, oc, nI B, xa, pk, xr, xw, en, cn, cb, cv, kd, na, nb, se, fn, tg, tn, pF, pS, cT, cB, bo, wN, wF, wB, wV)) : wpX_enterFun post (nI B, xD, xn, xo, xc, xl, oc, nI B, xa, pk, xr, xw, en, cn, cb, cv, kd, na, nb, se, fn, tg, tn, pF, pS, cT, cB, bo, wN, wF, wB, wV) q := by
  unfold wpX_enterFun
  exact x_sp12 (br_f (by decide) h)
theorem x_ef {post : Int32 → St2 → Prop} (hi : i < 32) (hu : un < B) (hB : B ≤ 64) (h : post 0 (nI B, xD, xn, xo, xc, xl, oc, nI (un + 1), xa, pk, xr, xw, 0, cn, cb, dm_val 3 (nI (un + 1)), kd, na, nb, se, fn, tg, tn, pF, pS, upd cT (un + 1) (tg i), upd cB (un + 1) cb, bo, wN, wF, wB, wV)) : wpX_enterFun post (nI B, xD, xn, xo, xc, xl, oc, nI un, xa, pk, xr, xw, en, cn, cb, cv, kd, na, nb, se, fn, tg, tn, pF, pS, cT, cB, bo, wN, wF, wB, wV) (nI i) := by
  have hu2 : un + 1 < 65 := by omega
  unfold wpX_enterFun
  exact x_sp0 hu hB (br_t rfl (x_mkc hi hu2 h))
theorem x_el12 {post : Int32 → St2 → Prop} {q : Int32} (h : post 12 (nI B, xD, xn, xo, xc, xl, oc, nI B, xa, pk, xr, xw, en, cn, cb, cv, kd, na, nb, se, fn, tg, tn, pF, pS, cT, cB, bo, wN, wF, wB, wV)) : wpX_enterLetRec post (nI B, xD, xn, xo, xc, xl, oc, nI B, xa, pk, xr, xw, en, cn, cb, cv, kd, na, nb, se, fn, tg, tn, pF, pS, cT, cB, bo, wN, wF, wB, wV) q := by
  unfold wpX_enterLetRec
  exact x_sp12 (br_f (by decide) h)
theorem x_el {post : Int32 → St2 → Prop} {n : Nat} (hn : n ≤ 32) (hi : i + 1 < n) (qA : na i = nI y) (hy : y < 8) (hs : s ≤ un) (S : se (i + 1) = nI (dm_E kd (i + 1))) (hu : un < B) (hB : B ≤ 64) (h : post 0 (nI B, xD, xn, xo, xc, xl, oc, nI (un + 1), xa, pk, xr, xw, 1, nI (dm_ch kd i 1), nI (un + 1), cv, kd, na, nb, se, fn, tg, tn, pF, pS, upd cT (un + 1) (tg i), upd cB (un + 1) (nI s), vp_updL (dm_cp bo s (un + 1) 8) ((un + 1) * 8 + y) (dm_val 3 (nI (un + 1))), wN, wF, wB, wV)) : wpX_enterLetRec post (nI B, xD, xn, xo, xc, xl, oc, nI un, xa, pk, xr, xw, en, cn, nI s, cv, kd, na, nb, se, fn, tg, tn, pF, pS, cT, cB, bo, wN, wF, wB, wV) (nI i) := by
  have hu2 : un + 1 < 65 := by omega
  have hi2 : i < 32 := by omega
  have hs2 : s < un + 1 := by omega
  unfold wpX_enterLetRec
  refine x_sp0 hu hB (br_t rfl (x_mkc hi2 hu2 (x_copy hs2 hu2 ⟨dm_w32 hi2, ?_⟩)))
  rw [dm_at2 (g := na) (by omega) qA]
  exact x_bnd hu2 hy (x_sec hn hi S h)
theorem x_mp12 {post : Int32 → St2 → Prop} {v1 v2 : Int64} (h : post 12 (nI B, xD, xn, xo, xc, xl, oc, nI B, xa, pk, xr, xw, en, cn, cb, cv, kd, na, nb, se, fn, tg, tn, pF, pS, cT, cB, bo, wN, wF, wB, wV)) : wpX_makePair post (nI B, xD, xn, xo, xc, xl, oc, nI B, xa, pk, xr, xw, en, cn, cb, cv, kd, na, nb, se, fn, tg, tn, pF, pS, cT, cB, bo, wN, wF, wB, wV) v1 v2 := by
  unfold wpX_makePair
  exact x_sp12 (br_f (by decide) h)
theorem x_mp {post : Int32 → St2 → Prop} {v1 v2 : Int64} (hu : un < B) (hB : B ≤ 64) (h : post 0 (nI B, xD, xn, xo, xc, xl, oc, nI (un + 1), xa, pk, xr, xw, 0, cn, cb, dm_val 2 (nI (un + 1)), kd, na, nb, se, fn, tg, tn, vp_updL pF (un + 1) v1, vp_updL pS (un + 1) v2, cT, cB, bo, wN, wF, wB, wV)) : wpX_makePair post (nI B, xD, xn, xo, xc, xl, oc, nI un, xa, pk, xr, xw, en, cn, cb, cv, kd, na, nb, se, fn, tg, tn, pF, pS, cT, cB, bo, wN, wF, wB, wV) v1 v2 := by
  have hu2 : un + 1 < 65 := by omega
  unfold wpX_makePair
  exact x_sp0 hu hB (br_t rfl ⟨dm_w65 hu2, nm_r (dm_upL (by omega)) ⟨dm_w65 hu2, nm_r (dm_upL (by omega)) h⟩⟩)
theorem x_rl12 {post : Int32 → St2 → Prop} {q : Int32} (h : post 12 (nI B, xD, xn, xo, xc, xl, oc, nI B, xa, pk, xr, nI w, en, cn, cb, cv, kd, na, nb, se, fn, tg, tn, pF, pS, cT, cB, bo, wN, wF, wB, wV)) : wpX_resumeLet post (nI B, xD, xn, xo, xc, xl, oc, nI B, xa, pk, xr, nI (w + 1), en, cn, cb, cv, kd, na, nb, se, fn, tg, tn, pF, pS, cT, cB, bo, wN, wF, wB, wV) q := by
  unfold wpX_resumeLet
  exact nm_r (nI_pred w) (x_sp12 (br_f (by decide) h))
theorem x_rl {post : Int32 → St2 → Prop} {n : Nat} (hn : n ≤ 32) (hi : i + 1 < n) (S : se (i + 1) = nI (dm_E kd (i + 1))) (hw : w < 288) (qB : wB w = nI s) (qA : na i = nI y) (hy : y < 8) (hs : s ≤ un) (hu : un < B) (hB : B ≤ 64) (h : post 0 (nI B, xD, xn, xo, xc, xl, oc, nI (un + 1), xa, pk, xr, nI w, 1, nI (dm_ch kd i 1), nI (un + 1), cv, kd, na, nb, se, fn, tg, tn, pF, pS, cT, cB, vp_updL (dm_cp bo s (un + 1) 8) ((un + 1) * 8 + y) cv, wN, wF, wB, wV)) : wpX_resumeLet post (nI B, xD, xn, xo, xc, xl, oc, nI un, xa, pk, xr, nI (w + 1), en, cn, cb, cv, kd, na, nb, se, fn, tg, tn, pF, pS, cT, cB, bo, wN, wF, wB, wV) (nI i) := by
  have hu2 : un + 1 < 65 := by omega
  have hi2 : i < 32 := by omega
  have hs2 : s < un + 1 := by omega
  unfold wpX_resumeLet
  refine nm_r (nI_pred w) (x_sp0 hu hB (br_t rfl ⟨dm_w288 hw, ?_⟩))
  rw [dm_at2 (g := wB) (by omega) qB]
  refine x_copy hs2 hu2 ⟨dm_w32 hi2, ?_⟩
  rw [dm_at2 (g := na) (by omega) qA]
  exact x_bnd hu2 hy (x_sec hn hi S h)
theorem x_e_num {post : Int32 → St2 → Prop} (hi : i < 32) (qK : kd i = 1) (h : post 0 (xB, xD, xn, xo, xc, xl, oc, xu, xa, pk, xr, xw, 0, nI i, cb, dm_val 1 (na i), kd, na, nb, se, fn, tg, tn, pF, pS, cT, cB, bo, wN, wF, wB, wV)) : wpX_enterNode post (xB, xD, xn, xo, xc, xl, oc, xu, xa, pk, xr, xw, en, nI i, cb, cv, kd, na, nb, se, fn, tg, tn, pF, pS, cT, cB, bo, wN, wF, wB, wV) := by
  refine ⟨dm_w32 hi, nm_r (dm_at2 (by omega) qK) (br_t rfl ⟨dm_w32 hi, ?_⟩)⟩
  rw [dm_at2 (g := na) (by omega) rfl]
  exact h
theorem x_e_var {post : Int32 → St2 → Prop} (hi : i < 32) (qK : kd i = 2) (qA : na i = nI y) (hy : y < 8) (hs : s < 65) (h : post 0 (xB, xD, xn, xo, xc, xl, oc, xu, xa, pk, xr, xw, 0, nI i, nI s, bo (s * 8 + y), kd, na, nb, se, fn, tg, tn, pF, pS, cT, cB, bo, wN, wF, wB, wV)) : wpX_enterNode post (xB, xD, xn, xo, xc, xl, oc, xu, xa, pk, xr, xw, en, nI i, nI s, cv, kd, na, nb, se, fn, tg, tn, pF, pS, cT, cB, bo, wN, wF, wB, wV) := by
  refine ⟨dm_w32 hi, nm_r (dm_at2 (by omega) qK) (br_f (by decide) (br_t rfl ⟨dm_w32 hi, ?_⟩))⟩
  rw [dm_at2 (g := na) (by omega) qA, dm_ix]
  refine ⟨vp_in_nI (by omega) (by omega), ?_⟩
  rw [dm_atL (g := bo) (by omega)]
  exact h
theorem x_e_fun12 {post : Int32 → St2 → Prop} (hi : i < 32) (qK : kd i = 13) (h : post 12 (nI B, xD, xn, xo, xc, xl, oc, nI B, xa, pk, xr, xw, en, nI i, cb, cv, kd, na, nb, se, fn, tg, tn, pF, pS, cT, cB, bo, wN, wF, wB, wV)) : wpX_enterNode post (nI B, xD, xn, xo, xc, xl, oc, nI B, xa, pk, xr, xw, en, nI i, cb, cv, kd, na, nb, se, fn, tg, tn, pF, pS, cT, cB, bo, wN, wF, wB, wV) :=
  ⟨dm_w32 hi, nm_r (dm_at2 (by omega) qK) (br_f (by decide) (br_f (by decide) (br_t rfl (x_ef12 h))))⟩
theorem x_e_fun {post : Int32 → St2 → Prop} (hi : i < 32) (qK : kd i = 13) (hu : un < B) (hB : B ≤ 64) (h : post 0 (nI B, xD, xn, xo, xc, xl, oc, nI (un + 1), xa, pk, xr, xw, 0, nI i, cb, dm_val 3 (nI (un + 1)), kd, na, nb, se, fn, tg, tn, pF, pS, upd cT (un + 1) (tg i), upd cB (un + 1) cb, bo, wN, wF, wB, wV)) : wpX_enterNode post (nI B, xD, xn, xo, xc, xl, oc, nI un, xa, pk, xr, xw, en, nI i, cb, cv, kd, na, nb, se, fn, tg, tn, pF, pS, cT, cB, bo, wN, wF, wB, wV) :=
  ⟨dm_w32 hi, nm_r (dm_at2 (by omega) qK) (br_f (by decide) (br_f (by decide) (br_t rfl (x_ef hi hu hB h))))⟩
theorem x_e_rec12 {post : Int32 → St2 → Prop} (hi : i < 32) (qK : kd i = 15) (h : post 12 (nI B, xD, xn, xo, xc, xl, oc, nI B, xa, pk, xr, xw, en, nI i, cb, cv, kd, na, nb, se, fn, tg, tn, pF, pS, cT, cB, bo, wN, wF, wB, wV)) : wpX_enterNode post (nI B, xD, xn, xo, xc, xl, oc, nI B, xa, pk, xr, xw, en, nI i, cb, cv, kd, na, nb, se, fn, tg, tn, pF, pS, cT, cB, bo, wN, wF, wB, wV) :=
  ⟨dm_w32 hi, nm_r (dm_at2 (by omega) qK) (br_f (by decide) (br_f (by decide) (br_f (by decide) (br_t rfl (x_el12 h)))))⟩
theorem x_e_rec {post : Int32 → St2 → Prop} {n : Nat} (hn : n ≤ 32) (hi : i + 1 < n) (qK : kd i = 15) (qA : na i = nI y) (hy : y < 8) (hs : s ≤ un) (S : se (i + 1) = nI (dm_E kd (i + 1))) (hu : un < B) (hB : B ≤ 64) (h : post 0 (nI B, xD, xn, xo, xc, xl, oc, nI (un + 1), xa, pk, xr, xw, 1, nI (dm_ch kd i 1), nI (un + 1), cv, kd, na, nb, se, fn, tg, tn, pF, pS, upd cT (un + 1) (tg i), upd cB (un + 1) (nI s), vp_updL (dm_cp bo s (un + 1) 8) ((un + 1) * 8 + y) (dm_val 3 (nI (un + 1))), wN, wF, wB, wV)) : wpX_enterNode post (nI B, xD, xn, xo, xc, xl, oc, nI un, xa, pk, xr, xw, en, nI i, nI s, cv, kd, na, nb, se, fn, tg, tn, pF, pS, cT, cB, bo, wN, wF, wB, wV) := by
  exact ⟨dm_w32 (by omega), nm_r (dm_at2 (by omega) qK) (br_f (by decide) (br_f (by decide) (br_f (by decide) (br_t rfl (x_el hn hi qA hy hs S hu hB h)))))⟩
theorem x_e_oth {post : Int32 → St2 → Prop} (hi : i < 32) (kF : dm_kF (kd i)) (hw : w < 288) (h : post 0 (xB, xD, xn, xo, xc, xl, oc, xu, xa, pk, xr, nI (w + 1), 1, nI (i + 1), cb, cv, kd, na, nb, se, fn, tg, tn, pF, pS, cT, cB, bo, upd wN w (nI i), upd wF w 0, upd wB w cb, wV)) : wpX_enterNode post (xB, xD, xn, xo, xc, xl, oc, xu, xa, pk, xr, nI w, en, nI i, cb, cv, kd, na, nb, se, fn, tg, tn, pF, pS, cT, cB, bo, wN, wF, wB, wV) := by
  obtain ⟨n1, n2, n13, n15⟩ := dm_kF_n kF
  refine ⟨dm_w32 hi, nm_r (dm_at2 (by omega) rfl) (br_f n1 (br_f n2 (br_f n13 (br_f n15 ⟨dm_w288 hw, nm_r (dm_up2 (by omega)) ⟨dm_w288 hw, nm_r (dm_up2 (by omega)) ⟨dm_w288 hw, nm_r (dm_up2 (by omega)) (nm_r (nI_1 w) ?_)⟩⟩⟩))))⟩
  refine (show wpX_firstChild _ _ _ from ?_)
  unfold wpX_firstChild
  rw [nI_1]
  exact h
/-! resuming: w + 1 nodes wait -/
theorem x_r_D {post : Int32 → St2 → Prop} (hw : w < 288) (qN : wN w = nI i) (hi : i < 32) (kD : dm_kB (kd i) ∨ kd i = 10) (h : wpX_resumeOperator post (xB, xD, xn, xo, xc, xl, oc, xu, xa, pk, xr, nI (w + 1), en, cn, cb, cv, kd, na, nb, se, fn, tg, tn, pF, pS, cT, cB, bo, wN, wF, wB, wV) (nI i)) : wpX_resumeNode post (xB, xD, xn, xo, xc, xl, oc, xu, xa, pk, xr, nI (w + 1), en, cn, cb, cv, kd, na, nb, se, fn, tg, tn, pF, pS, cT, cB, bo, wN, wF, wB, wV) := by
  refine nm_r (nI_pred w) ⟨dm_w288 hw, nm_r (dm_at2 (by omega) qN) ⟨dm_w32 hi, nm_r (dm_at2 (by omega) rfl) ?_⟩⟩
  rcases kD with (e | e | e | e | e | e) | e
  · exact br_t (by rw [e]; decide) h
  · exact br_t (by rw [e]; decide) h
  · exact br_t (by rw [e]; decide) h
  · exact br_t (by rw [e]; decide) h
  · exact br_t (by rw [e]; decide) h
  · exact br_t (by rw [e]; decide) h
  · exact br_f (by rw [e]; decide) (br_f (by rw [e]; decide) (br_f (by rw [e]; decide) (br_t e h)))
theorem x_esc {post : Int32 → St2 → Prop} {n : Nat} (hn : n ≤ 32) (hi : i + 1 < n) (S : se (i + 1) = nI (dm_E kd (i + 1))) (hw : w < 288) (h : post 0 (xB, xD, xn, xo, xc, xl, oc, xu, xa, pk, xr, nI (w + 1), 1, nI (dm_ch kd i 1), wB w, cv, kd, na, nb, se, fn, tg, tn, pF, pS, cT, cB, bo, wN, upd wF w 1, wB, vp_updL wV w cv)) : wpX_enterSecondChild post (xB, xD, xn, xo, xc, xl, oc, xu, xa, pk, xr, nI (w + 1), en, cn, cb, cv, kd, na, nb, se, fn, tg, tn, pF, pS, cT, cB, bo, wN, wF, wB, wV) (nI i) := by
  refine nm_r (nI_pred w) ⟨dm_w288 hw, nm_r (dm_up2 (by omega)) ⟨dm_w288 hw, nm_r (dm_upL (by omega)) (x_sec hn hi S ⟨dm_w288 hw, ?_⟩)⟩⟩
  rw [dm_at2 (g := wB) (by omega) rfl]
  exact h
theorem x_r_one {post : Int32 → St2 → Prop} {n : Nat} (hn : n ≤ 32) (hi : i + 1 < n) (S : se (i + 1) = nI (dm_E kd (i + 1))) (hw : w < 288) (qN : wN w = nI i) (qF : wF w = 0) (kS : dm_kS (kd i)) (h : post 0 (xB, xD, xn, xo, xc, xl, oc, xu, xa, pk, xr, nI (w + 1), 1, nI (dm_ch kd i 1), wB w, cv, kd, na, nb, se, fn, tg, tn, pF, pS, cT, cB, bo, wN, upd wF w 1, wB, vp_updL wV w cv)) : wpX_resumeNode post (xB, xD, xn, xo, xc, xl, oc, xu, xa, pk, xr, nI (w + 1), en, cn, cb, cv, kd, na, nb, se, fn, tg, tn, pF, pS, cT, cB, bo, wN, wF, wB, wV) := by
  by_cases k16 : kd i = 16
  · refine nm_r (nI_pred w) ⟨dm_w288 hw, nm_r (dm_at2 (by omega) qN) ⟨dm_w32 (by omega), nm_r (dm_at2 (by omega) k16) ?_⟩⟩
    refine br_f (by decide) (br_f (by decide) (br_f (by decide) (br_f (by decide) (br_f (by decide) (br_f (by decide) (br_f (by decide) (br_f (by decide) (br_f (by decide) (br_t rfl ?_)))))))))
    exact nm_r (nI_pred w) ⟨dm_w288 hw, br_t (dm_at2 (by omega) qF) (x_esc hn hi S hw h)⟩
  · have kD : dm_kB (kd i) ∨ kd i = 10 := by
      rcases kS with e | e | e | e | e | e | e | e
      · exact Or.inl (Or.inl e)
      · exact Or.inl (Or.inr (Or.inl e))
      · exact Or.inl (Or.inr (Or.inr (Or.inl e)))
      · exact Or.inl (Or.inr (Or.inr (Or.inr (Or.inl e))))
      · exact Or.inl (Or.inr (Or.inr (Or.inr (Or.inr (Or.inl e)))))
      · exact Or.inl (Or.inr (Or.inr (Or.inr (Or.inr (Or.inr e)))))
      · exact Or.inr e
      · exact absurd e k16
    refine x_r_D hw qN (by omega) kD ?_
    exact nm_r (nI_pred w) ⟨dm_w288 hw, br_t (dm_at2 (by omega) qF) (x_esc hn hi S hw h)⟩
theorem x_r_pair12 {post : Int32 → St2 → Prop} (hw : w < 288) (qN : wN w = nI i) (hi : i < 32) (qF : wF w = 1) (qK : kd i = 10) (h : post 12 (nI B, xD, xn, xo, xc, xl, oc, nI B, xa, pk, xr, nI w, en, cn, cb, cv, kd, na, nb, se, fn, tg, tn, pF, pS, cT, cB, bo, wN, wF, wB, wV)) : wpX_resumeNode post (nI B, xD, xn, xo, xc, xl, oc, nI B, xa, pk, xr, nI (w + 1), en, cn, cb, cv, kd, na, nb, se, fn, tg, tn, pF, pS, cT, cB, bo, wN, wF, wB, wV) := by
  refine x_r_D hw qN hi (Or.inr qK) (nm_r (nI_pred w) ⟨dm_w288 hw, br_f (by rw [dm_at2 (g := wF) (by omega) qF]; decide) (nm_r (nI_pred w) ⟨dm_w32 hi, br_t (dm_at2 (by omega) qK) ⟨dm_w288 hw, ?_⟩⟩)⟩)
  exact x_mp12 h
theorem x_r_pair {post : Int32 → St2 → Prop} (hw : w < 288) (qN : wN w = nI i) (hi : i < 32) (qF : wF w = 1) (qK : kd i = 10) (hu : un < B) (hB : B ≤ 64) (h : post 0 (nI B, xD, xn, xo, xc, xl, oc, nI (un + 1), xa, pk, xr, nI w, 0, cn, cb, dm_val 2 (nI (un + 1)), kd, na, nb, se, fn, tg, tn, vp_updL pF (un + 1) (wV w), vp_updL pS (un + 1) cv, cT, cB, bo, wN, wF, wB, wV)) : wpX_resumeNode post (nI B, xD, xn, xo, xc, xl, oc, nI un, xa, pk, xr, nI (w + 1), en, cn, cb, cv, kd, na, nb, se, fn, tg, tn, pF, pS, cT, cB, bo, wN, wF, wB, wV) := by
  refine x_r_D hw qN hi (Or.inr qK) (nm_r (nI_pred w) ⟨dm_w288 hw, br_f (by rw [dm_at2 (g := wF) (by omega) qF]; decide) (nm_r (nI_pred w) ⟨dm_w32 hi, br_t (dm_at2 (by omega) qK) ⟨dm_w288 hw, ?_⟩⟩)⟩)
  rw [dm_atL (g := wV) (by omega)]
  exact x_mp hu hB h
theorem x_r_bin {post : Int32 → St2 → Prop} (hw : w < 288) (qN : wN w = nI i) (hi : i < 32) (qF : wF w = 1) (kB : dm_kB (kd i)) (h : wpX_operate post (xB, xD, xn, xo, xc, xl, oc, xu, xa, pk, xr, nI w, en, cn, cb, cv, kd, na, nb, se, fn, tg, tn, pF, pS, cT, cB, bo, wN, wF, wB, wV) (kd i) (wV w) cv) : wpX_resumeNode post (xB, xD, xn, xo, xc, xl, oc, xu, xa, pk, xr, nI (w + 1), en, cn, cb, cv, kd, na, nb, se, fn, tg, tn, pF, pS, cT, cB, bo, wN, wF, wB, wV) := by
  obtain ⟨n1, n2, n13, n15, n9, n11, n12, n14, n16, n10⟩ := dm_kB_n kB
  refine x_r_D hw qN hi (Or.inl kB) (nm_r (nI_pred w) ⟨dm_w288 hw, br_f (by rw [dm_at2 (g := wF) (by omega) qF]; decide) (nm_r (nI_pred w) ⟨dm_w32 hi, br_f (by rw [dm_at2 (g := kd) (by omega) rfl]; exact n10) ⟨dm_w32 hi, dm_w288 hw, ?_⟩⟩)⟩)
  rw [dm_at2 (g := kd) (by omega) rfl, dm_atL (g := wV) (by omega)]
  exact h
theorem x_b8a {post : Int32 → St2 → Prop} {k : Int32} {v1 v2 : Int64} (hk : ¬ dm_kof v1 = 1) (h : post 8 (xB, xD, xn, xo, xc, xl, oc, xu, xa, pk, xr, xw, en, cn, cb, cv, kd, na, nb, se, fn, tg, tn, pF, pS, cT, cB, bo, wN, wF, wB, wV)) : wpX_operate post (xB, xD, xn, xo, xc, xl, oc, xu, xa, pk, xr, xw, en, cn, cb, cv, kd, na, nb, se, fn, tg, tn, pF, pS, cT, cB, bo, wN, wF, wB, wV) k v1 v2 := br_f hk h
theorem x_b8b {post : Int32 → St2 → Prop} {k : Int32} {v1 v2 : Int64} (hk : dm_kof v1 = 1) (hk2 : ¬ dm_kof v2 = 1) (h : post 8 (xB, xD, xn, xo, xc, xl, oc, xu, xa, pk, xr, xw, en, cn, cb, cv, kd, na, nb, se, fn, tg, tn, pF, pS, cT, cB, bo, wN, wF, wB, wV)) : wpX_operate post (xB, xD, xn, xo, xc, xl, oc, xu, xa, pk, xr, xw, en, cn, cb, cv, kd, na, nb, se, fn, tg, tn, pF, pS, cT, cB, bo, wN, wF, wB, wV) k v1 v2 := br_t hk (br_f hk2 h)
theorem x_b11 {post : Int32 → St2 → Prop} {v1 v2 : Int64} (hk : dm_kof v1 = 1) (hk2 : dm_kof v2 = 1) (hz : v2.toInt32 = 0) (h : post 11 (xB, xD, xn, xo, xc, xl, oc, xu, xa, pk, xr, xw, en, cn, cb, cv, kd, na, nb, se, fn, tg, tn, pF, pS, cT, cB, bo, wN, wF, wB, wV)) : wpX_operate post (xB, xD, xn, xo, xc, xl, oc, xu, xa, pk, xr, xw, en, cn, cb, cv, kd, na, nb, se, fn, tg, tn, pF, pS, cT, cB, bo, wN, wF, wB, wV) 6 v1 v2 :=
  br_t hk (br_t hk2 (br_f (by decide) (br_f (by decide) (br_f (by decide) (br_f (by decide) (br_f (by decide) (br_t rfl (br_t hz h))))))))
theorem x_b {post : Int32 → St2 → Prop} {k : Int32} {v1 v2 : Int64} (hk : dm_kof v1 = 1) (hk2 : dm_kof v2 = 1) (hz : ¬ (k = 6 ∧ v2.toInt32 = 0)) (kB : dm_kB k) (h : post 0 (xB, xD, xn, xo, xc, xl, oc, xu, xa, pk, xr, xw, 0, cn, cb, dm_val 1 (dm_bin k v1.toInt32 v2.toInt32), kd, na, nb, se, fn, tg, tn, pF, pS, cT, cB, bo, wN, wF, wB, wV)) : wpX_operate post (xB, xD, xn, xo, xc, xl, oc, xu, xa, pk, xr, xw, en, cn, cb, cv, kd, na, nb, se, fn, tg, tn, pF, pS, cT, cB, bo, wN, wF, wB, wV) k v1 v2 := by
  have W : ∀ z, z = dm_bin k v1.toInt32 v2.toInt32 → wX_operate_147 post z xB xD xn xo xc xl oc xu xa pk xr xw en cn cb cv kd na nb se fn tg tn pF pS cT cB bo wN wF wB wV := by
    rintro z rfl
    exact h
  refine br_t hk (br_t hk2 ?_)
  rcases kB with rfl | rfl | rfl | rfl | rfl | rfl
  · exact br_f (by decide) (br_f (by decide) (br_t rfl (nm_e (W _ rfl))))
  · exact br_f (by decide) (br_f (by decide) (br_f (by decide) (br_t rfl (nm_e (W _ rfl)))))
  · exact br_f (by decide) (br_f (by decide) (br_f (by decide) (br_f (by decide) (br_t rfl (nm_e (W _ rfl))))))
  · have hz2 : ¬ v2.toInt32 = 0 := fun e => hz ⟨rfl, e⟩
    exact br_f (by decide) (br_f (by decide) (br_f (by decide) (br_f (by decide) (br_f (by decide) (br_t rfl (br_f hz2 ⟨hz2, nm_e (W _ rfl)⟩))))))
  · refine br_f (by decide) (br_f (by decide) (br_f (by decide) (br_f (by decide) (br_f (by decide) (br_f (by decide) (br_t rfl ?_))))))
    by_cases e : v2.toInt32 ≤ v1.toInt32
    · exact br_t e (W _ (if_pos e).symm)
    · exact br_f e (W _ (if_neg e).symm)
  · refine br_f (by decide) (br_t (by decide) ?_)
    by_cases e : v1.toInt32 = v2.toInt32
    · exact br_t e (W _ (if_pos e).symm)
    · exact br_f e (W _ (if_neg e).symm)
theorem x_r_if8 {post : Int32 → St2 → Prop} (hw : w < 288) (qN : wN w = nI i) (hi : i < 32) (qK : kd i = 9) (hk : ¬ dm_kof cv = 1) (h : post 8 (xB, xD, xn, xo, xc, xl, oc, xu, xa, pk, xr, nI w, en, cn, cb, cv, kd, na, nb, se, fn, tg, tn, pF, pS, cT, cB, bo, wN, wF, wB, wV)) : wpX_resumeNode post (xB, xD, xn, xo, xc, xl, oc, xu, xa, pk, xr, nI (w + 1), en, cn, cb, cv, kd, na, nb, se, fn, tg, tn, pF, pS, cT, cB, bo, wN, wF, wB, wV) :=
  nm_r (nI_pred w) ⟨dm_w288 hw, nm_r (dm_at2 (by omega) qN) ⟨dm_w32 hi, nm_r (dm_at2 (by omega) qK) (br_f (by decide) (br_f (by decide) (br_t rfl (nm_r (nI_pred w) (br_f hk h)))))⟩⟩
theorem x_r_if {post : Int32 → St2 → Prop} {n b : Nat} (hn : n ≤ 32) (hi : i + 1 < n) (hi2 : dm_ch kd i 1 < n) (S : ∀ j, j < n → se j = nI (dm_E kd j)) (hw : w < 288) (qN : wN w = nI i) (qK : kd i = 9) (hk : dm_kof cv = 1) (hb : (cv.toInt32 = 0 ∧ b = 2) ∨ (¬ cv.toInt32 = 0 ∧ b = 1)) (h : post 0 (xB, xD, xn, xo, xc, xl, oc, xu, xa, pk, xr, nI w, 1, nI (dm_ch kd i b), wB w, cv, kd, na, nb, se, fn, tg, tn, pF, pS, cT, cB, bo, wN, wF, wB, wV)) : wpX_resumeNode post (xB, xD, xn, xo, xc, xl, oc, xu, xa, pk, xr, nI (w + 1), en, cn, cb, cv, kd, na, nb, se, fn, tg, tn, pF, pS, cT, cB, bo, wN, wF, wB, wV) := by
  have W : wX_resumeIf_47 post (nI (dm_ch kd i b)) xB xD xn xo xc xl oc xu xa pk xr (nI w) en cn cb cv kd na nb se fn tg tn pF pS cT cB bo wN wF wB wV := by
    refine ⟨dm_w288 hw, ?_⟩
    rw [dm_at2 (g := wB) (by omega) rfl]
    exact h
  refine nm_r (nI_pred w) ⟨dm_w288 hw, nm_r (dm_at2 (by omega) qN) ⟨dm_w32 (by omega), nm_r (dm_at2 (by omega) qK) (br_f (by decide) (br_f (by decide) (br_t rfl (nm_r (nI_pred w) (br_t hk ?_)))))⟩⟩
  rcases hb with ⟨z, rfl⟩ | ⟨z, rfl⟩
  · refine br_t z ⟨?_, ?_⟩
    · rw [nI_1]
      exact dm_w32 (by omega)
    · have e1 : se (nI i + 1).toNatClampNeg = nI (dm_ch kd i 1) := by
        rw [nI_1]
        exact dm_at2 (by omega) (S _ hi)
      rw [e1]
      refine ⟨dm_w32 (by omega), ?_⟩
      rw [dm_at2 (g := se) (by omega) (S _ hi2)]
      exact W
  · exact br_f z (x_sec hn hi (S _ hi) W)
theorem x_r_part10 {post : Int32 → St2 → Prop} (hw : w < 288) (qN : wN w = nI i) (hi : i < 32) (qK : kd i = 11 ∨ kd i = 12) (hk : ¬ dm_kof cv = 2) (h : post 10 (xB, xD, xn, xo, xc, xl, oc, xu, xa, pk, xr, nI w, en, cn, cb, cv, kd, na, nb, se, fn, tg, tn, pF, pS, cT, cB, bo, wN, wF, wB, wV)) : wpX_resumeNode post (xB, xD, xn, xo, xc, xl, oc, xu, xa, pk, xr, nI (w + 1), en, cn, cb, cv, kd, na, nb, se, fn, tg, tn, pF, pS, cT, cB, bo, wN, wF, wB, wV) := by
  refine nm_r (nI_pred w) ⟨dm_w288 hw, nm_r (dm_at2 (by omega) qN) ⟨dm_w32 hi, nm_r (dm_at2 (by omega) rfl) ?_⟩⟩
  rcases qK with e | e <;> rw [e]
  · exact br_f (by decide) (br_f (by decide) (br_f (by decide) (br_f (by decide) (br_t rfl (nm_r (nI_pred w) (br_f hk h))))))
  · exact br_f (by decide) (br_f (by decide) (br_f (by decide) (br_f (by decide) (br_f (by decide) (br_t rfl (nm_r (nI_pred w) (br_f hk h)))))))
theorem x_r_fst {post : Int32 → St2 → Prop} {p : Nat} (hw : w < 288) (qN : wN w = nI i) (hi : i < 32) (qK : kd i = 11) (hk : dm_kof cv = 2) (hd : cv.toInt32 = nI p) (hp : p < 65) (h : post 0 (xB, xD, xn, xo, xc, xl, oc, xu, xa, pk, xr, nI w, 0, cn, cb, pF p, kd, na, nb, se, fn, tg, tn, pF, pS, cT, cB, bo, wN, wF, wB, wV)) : wpX_resumeNode post (xB, xD, xn, xo, xc, xl, oc, xu, xa, pk, xr, nI (w + 1), en, cn, cb, cv, kd, na, nb, se, fn, tg, tn, pF, pS, cT, cB, bo, wN, wF, wB, wV) := by
  have e : ∀ g : Nat → Int64, g cv.toInt32.toNatClampNeg = g p := by
    intro g
    rw [hd, nI_clamp (by omega)]
  refine nm_r (nI_pred w) ⟨dm_w288 hw, nm_r (dm_at2 (by omega) qN) ⟨dm_w32 hi, nm_r (dm_at2 (by omega) qK) (br_f (by decide) (br_f (by decide) (br_f (by decide) (br_f (by decide) (br_t rfl (nm_r (nI_pred w) (br_t hk ⟨dm_w32 hi, br_t (dm_at2 (by omega) qK) ⟨by rw [hd]; exact dm_w65 hp, ?_⟩⟩)))))))⟩⟩
  rw [e pF]
  exact h
theorem x_r_snd {post : Int32 → St2 → Prop} {p : Nat} (hw : w < 288) (qN : wN w = nI i) (hi : i < 32) (qK : kd i = 12) (hk : dm_kof cv = 2) (hd : cv.toInt32 = nI p) (hp : p < 65) (h : post 0 (xB, xD, xn, xo, xc, xl, oc, xu, xa, pk, xr, nI w, 0, cn, cb, pS p, kd, na, nb, se, fn, tg, tn, pF, pS, cT, cB, bo, wN, wF, wB, wV)) : wpX_resumeNode post (xB, xD, xn, xo, xc, xl, oc, xu, xa, pk, xr, nI (w + 1), en, cn, cb, cv, kd, na, nb, se, fn, tg, tn, pF, pS, cT, cB, bo, wN, wF, wB, wV) := by
  have e : ∀ g : Nat → Int64, g cv.toInt32.toNatClampNeg = g p := by
    intro g
    rw [hd, nI_clamp (by omega)]
  refine nm_r (nI_pred w) ⟨dm_w288 hw, nm_r (dm_at2 (by omega) qN) ⟨dm_w32 hi, nm_r (dm_at2 (by omega) qK) (br_f (by decide) (br_f (by decide) (br_f (by decide) (br_f (by decide) (br_f (by decide) (br_t rfl (nm_r (nI_pred w) (br_t hk ⟨dm_w32 hi, br_f (by rw [dm_at2 (g := kd) (by omega) qK]; decide) ⟨by rw [hd]; exact dm_w65 hp, ?_⟩⟩))))))))⟩⟩
  rw [e pS]
  exact h
theorem x_r_let12 {post : Int32 → St2 → Prop} (hw : w < 288) (qN : wN w = nI i) (hi : i < 32) (qK : kd i = 14) (h : post 12 (nI B, xD, xn, xo, xc, xl, oc, nI B, xa, pk, xr, nI w, en, cn, cb, cv, kd, na, nb, se, fn, tg, tn, pF, pS, cT, cB, bo, wN, wF, wB, wV)) : wpX_resumeNode post (nI B, xD, xn, xo, xc, xl, oc, nI B, xa, pk, xr, nI (w + 1), en, cn, cb, cv, kd, na, nb, se, fn, tg, tn, pF, pS, cT, cB, bo, wN, wF, wB, wV) :=
  nm_r (nI_pred w) ⟨dm_w288 hw, nm_r (dm_at2 (by omega) qN) ⟨dm_w32 hi, nm_r (dm_at2 (by omega) qK) (br_f (by decide) (br_f (by decide) (br_f (by decide) (br_f (by decide) (br_f (by decide) (br_f (by decide) (br_f (by decide) (br_t rfl (x_rl12 h)))))))))⟩⟩
theorem x_r_let {post : Int32 → St2 → Prop} {n : Nat} (hn : n ≤ 32) (hi : i + 1 < n) (S : se (i + 1) = nI (dm_E kd (i + 1))) (hw : w < 288) (qN : wN w = nI i) (qB : wB w = nI s) (qK : kd i = 14) (qA : na i = nI y) (hy : y < 8) (hs : s ≤ un) (hu : un < B) (hB : B ≤ 64) (h : post 0 (nI B, xD, xn, xo, xc, xl, oc, nI (un + 1), xa, pk, xr, nI w, 1, nI (dm_ch kd i 1), nI (un + 1), cv, kd, na, nb, se, fn, tg, tn, pF, pS, cT, cB, vp_updL (dm_cp bo s (un + 1) 8) ((un + 1) * 8 + y) cv, wN, wF, wB, wV)) : wpX_resumeNode post (nI B, xD, xn, xo, xc, xl, oc, nI un, xa, pk, xr, nI (w + 1), en, cn, cb, cv, kd, na, nb, se, fn, tg, tn, pF, pS, cT, cB, bo, wN, wF, wB, wV) :=
  nm_r (nI_pred w) ⟨dm_w288 hw, nm_r (dm_at2 (by omega) qN) ⟨dm_w32 (by omega), nm_r (dm_at2 (by omega) qK) (br_f (by decide) (br_f (by decide) (br_f (by decide) (br_f (by decide) (br_f (by decide) (br_f (by decide) (br_f (by decide) (br_t rfl (x_rl hn hi S hw qB qA hy hs hu hB h)))))))))⟩⟩
theorem x_r_app {post : Int32 → St2 → Prop} (hw : w < 288) (qN : wN w = nI i) (hi : i < 32) (qF : wF w = 1) (qK : kd i = 16) (h : wpX_apply post (xB, xD, xn, xo, xc, xl, oc, xu, xa, pk, xr, nI (w + 1), en, cn, cb, cv, kd, na, nb, se, fn, tg, tn, pF, pS, cT, cB, bo, wN, upd wF w 2, wB, wV) (wV w) cv) : wpX_resumeNode post (xB, xD, xn, xo, xc, xl, oc, xu, xa, pk, xr, nI (w + 1), en, cn, cb, cv, kd, na, nb, se, fn, tg, tn, pF, pS, cT, cB, bo, wN, wF, wB, wV) := by
  refine nm_r (nI_pred w) ⟨dm_w288 hw, nm_r (dm_at2 (by omega) qN) ⟨dm_w32 (by omega), nm_r (dm_at2 (by omega) qK) ?_⟩⟩
  refine br_f (by decide) (br_f (by decide) (br_f (by decide) (br_f (by decide) (br_f (by decide) (br_f (by decide) (br_f (by decide) (br_f (by decide) (br_f (by decide) (br_t rfl ?_)))))))))
  refine nm_r (nI_pred w) ⟨dm_w288 hw, br_f (by rw [dm_at2 (g := wF) (by omega) qF]; decide) ⟨dm_w288 hw, br_t (dm_at2 (by omega) qF) ⟨dm_w288 hw, nm_r (dm_up2 (by omega)) ⟨dm_w288 hw, ?_⟩⟩⟩⟩
  rw [dm_atL (g := wV) (by omega)]
  exact h
theorem x_r_body {post : Int32 → St2 → Prop} (hw : w < 288) (qN : wN w = nI i) (hi : i < 32) (qF : wF w = 2) (qK : kd i = 16) (h : post 0 (xB, xD, xn, xo, xc, xl, oc, xu, nI a, pk, xr, nI w, en, cn, cb, cv, kd, na, nb, se, fn, tg, tn, pF, pS, cT, cB, bo, wN, wF, wB, wV)) : wpX_resumeNode post (xB, xD, xn, xo, xc, xl, oc, xu, nI (a + 1), pk, xr, nI (w + 1), en, cn, cb, cv, kd, na, nb, se, fn, tg, tn, pF, pS, cT, cB, bo, wN, wF, wB, wV) := by
  refine nm_r (nI_pred w) ⟨dm_w288 hw, nm_r (dm_at2 (by omega) qN) ⟨dm_w32 (by omega), nm_r (dm_at2 (by omega) qK) ?_⟩⟩
  refine br_f (by decide) (br_f (by decide) (br_f (by decide) (br_f (by decide) (br_f (by decide) (br_f (by decide) (br_f (by decide) (br_f (by decide) (br_f (by decide) (br_t rfl ?_)))))))))
  exact nm_r (nI_pred w) ⟨dm_w288 hw, br_f (by rw [dm_at2 (g := wF) (by omega) qF]; decide) ⟨dm_w288 hw, br_f (by rw [dm_at2 (g := wF) (by omega) qF]; decide) (nm_r (nI_pred w) (nm_r (nI_pred a) h))⟩⟩
theorem x_a9 {post : Int32 → St2 → Prop} {v1 v2 : Int64} (hk : ¬ dm_kof v1 = 3) (h : post 9 (xB, xD, xn, xo, xc, xl, oc, xu, xa, pk, xr, xw, en, cn, cb, cv, kd, na, nb, se, fn, tg, tn, pF, pS, cT, cB, bo, wN, wF, wB, wV)) : wpX_apply post (xB, xD, xn, xo, xc, xl, oc, xu, xa, pk, xr, xw, en, cn, cb, cv, kd, na, nb, se, fn, tg, tn, pF, pS, cT, cB, bo, wN, wF, wB, wV) v1 v2 := br_f hk h
theorem x_a12 {post : Int32 → St2 → Prop} {v1 v2 : Int64} (hk : dm_kof v1 = 3) (h : post 12 (nI B, xD, xn, xo, xc, xl, oc, nI B, xa, pk, xr, xw, en, cn, cb, cv, kd, na, nb, se, fn, tg, tn, pF, pS, cT, cB, bo, wN, wF, wB, wV)) : wpX_apply post (nI B, xD, xn, xo, xc, xl, oc, nI B, xa, pk, xr, xw, en, cn, cb, cv, kd, na, nb, se, fn, tg, tn, pF, pS, cT, cB, bo, wN, wF, wB, wV) v1 v2 := br_t hk (br_t rfl h)
theorem x_a13 {post : Int32 → St2 → Prop} {v1 v2 : Int64} (hk : dm_kof v1 = 3) (hu : un < B) (hB : B ≤ 64) (h : post 13 (nI B, nI D, xn, xo, xc, xl, oc, nI un, nI D, pk, xr, xw, en, cn, cb, cv, kd, na, nb, se, fn, tg, tn, pF, pS, cT, cB, bo, wN, wF, wB, wV)) : wpX_apply post (nI B, nI D, xn, xo, xc, xl, oc, nI un, nI D, pk, xr, xw, en, cn, cb, cv, kd, na, nb, se, fn, tg, tn, pF, pS, cT, cB, bo, wN, wF, wB, wV) v1 v2 :=
  br_t hk (br_f (fun e => by have := (nI_eq (by omega) (by omega)).mp e; omega) (br_t rfl h))
theorem x_a0 {post : Int32 → St2 → Prop} {v1 v2 : Int64} {p l q z : Nat} (hk : dm_kof v1 = 3) (hd : v1.toInt32 = nI p) (hp : p < 65) (hu : un < B) (hB : B ≤ 64) (ha : a < D) (hD : D ≤ 8) (qT : cT p = nI q) (hq : q < 32) (qL : tn q = nI l) (hl : l < 32) (qS : cB p = nI s) (hs : s ≤ un) (qA : na l = nI y) (hy : y < 8) (qB : kd l = 15 → nb l = nI z) (hz : z < 8)
    (hf : ¬ kd l = 15 → post 0 (nI B, nI D, xn, xo, xc, xl, oc, nI (un + 1), nI (a + 1), dm_pk a pk, xr, xw, 1, nI (l + 1), nI (un + 1), cv, kd, na, nb, se, fn, tg, tn, pF, pS, cT, cB, vp_updL (dm_cp bo s (un + 1) 8) ((un + 1) * 8 + y) v2, wN, wF, wB, wV))
    (hr : kd l = 15 → post 0 (nI B, nI D, xn, xo, xc, xl, oc, nI (un + 1), nI (a + 1), dm_pk a pk, xr, xw, 1, nI (l + 1), nI (un + 1), cv, kd, na, nb, se, fn, tg, tn, pF, pS, cT, cB, vp_updL (vp_updL (dm_cp bo s (un + 1) 8) ((un + 1) * 8 + y) v1) ((un + 1) * 8 + z) v2, wN, wF, wB, wV)) : wpX_apply post (nI B, nI D, xn, xo, xc, xl, oc, nI un, nI a, pk, xr, xw, en, cn, cb, cv, kd, na, nb, se, fn, tg, tn, pF, pS, cT, cB, bo, wN, wF, wB, wV) v1 v2 := by
  have W : ∀ k', k' = dm_pk a pk → wX_apply_78 post v1 v2 (nI B) (nI D) xn xo xc xl oc (nI (un + 1)) (nI (a + 1)) k' xr xw en cn cb cv kd na nb se fn tg tn pF pS cT cB bo wN wF wB wV := by
    rintro k' rfl
    have e1 : ∀ g : Nat → Int32, g v1.toInt32.toNatClampNeg = g p := by
      intro g
      rw [hd, nI_clamp (by omega)]
    have hin : vp_in v1.toInt32 65 := by
      rw [hd]
      exact dm_w65 hp
    refine ⟨hin, ?_⟩
    rw [e1 cT, e1 cB, qT, qS]
    refine ⟨dm_w32 hq, nm_r (dm_at2 (by omega) qL) ⟨hin, x_copy (by omega) (by omega) ⟨dm_w32 hl, ?_⟩⟩⟩
    by_cases c : kd l = 15
    · refine br_t (dm_at2 (by omega) c) ⟨dm_w32 hl, ?_⟩
      rw [dm_at2 (g := na) (by omega) qA]
      refine x_bnd (by omega) hy ⟨dm_w32 hl, ?_⟩
      rw [dm_at2 (g := nb) (by omega) (qB c)]
      refine x_bnd (by omega) hz ?_
      unfold wX_enterBody_98 wpX_firstChild
      rw [nI_1]
      exact hr c
    · refine br_f (by rw [dm_at2 (g := kd) (by omega) rfl]; exact c) ⟨dm_w32 hl, ?_⟩
      rw [dm_at2 (g := na) (by omega) qA]
      refine x_bnd (by omega) hy ?_
      unfold wX_enterBody_98 wpX_firstChild
      rw [nI_1]
      exact hf c
  refine br_t hk (br_f (fun e => by have := (nI_eq (by omega) (by omega)).mp e; omega) (br_f (fun e => by have := (nI_eq (by omega) (by omega)).mp e; omega) (nm_r (nI_1 un) (nm_r (nI_1 a) ?_))))
  by_cases e : nI (a + 1) ≤ pk
  · exact br_t e (W _ (if_pos e).symm)
  · exact br_f e (W _ (if_neg e).symm)
end
end
section
def dm_LX (post : Int32 → St2 → Prop) (m : Nat) (en1 : Int32) (g : Nat) (u : St2) : Prop := match u with
  | (xB, xD, xn, xo, xc, xl, oc, xu, xa, pk, xr, xw, en, cn, cb, cv, kd, na, nb, se, fn, tg, tn, pF, pS, cT, cB, bo, wN, wF, wB, wV) => wX_run_18 post m en1 (nI g) xB xD xn xo xc xl oc xu xa pk xr xw en cn cb cv kd na nb se fn tg tn pF pS cT cB bo wN wF wB wV
def dm_H (B D K gX : Nat) (en1 : Int32) (u : St2) : Prop := ∃ (oc : Int32) (u' : St2), dm_XR B D u' ∧ ∀ post : Int32 → St2 → Prop, post oc u' → ∀ m, K ≤ m → dm_LX post m en1 gX u
theorem dm_H_s {B D K gX : Nat} {e1 e2 : Int32} {u u2 : St2} (hX : ∀ post m, dm_LX post m e2 (gX + 1) u2 → dm_LX post (m + 1) e1 gX u) (g : dm_H B D K (gX + 1) e2 u2) : dm_H B D (K + 1) gX e1 u := by
  obtain ⟨oc, u', R, a⟩ := g
  refine ⟨oc, u', R, fun post h m hm => ?_⟩
  obtain ⟨m, rfl⟩ : ∃ q, m = q + 1 := ⟨m - 1, by omega⟩
  exact hX post m (a post h m (by omega))
theorem dm_H_y {B D K gX : Nat} {e1 : Int32} {u : St2} (g : dm_H B D K gX e1 u) : dm_H B D (K + 1) gX e1 u := by
  obtain ⟨oc, u', R, a⟩ := g
  exact ⟨oc, u', R, fun post h m hm => a post h m (by omega)⟩
theorem dm_H_e {B D K gX : Nat} {e1 code : Int32} {u u2 : St2} (hK : 1 ≤ K) (R : dm_XR B D u2) (hX : ∀ post : Int32 → St2 → Prop, ∀ m, post code u2 → dm_LX post (m + 1 + 1) e1 gX u) : dm_H B D (K + 1) gX e1 u := by
  refine ⟨code, u2, R, fun post h m hm => ?_⟩
  obtain ⟨m, rfl⟩ : ∃ q, m = q + 1 + 1 := ⟨m - 2, by omega⟩
  exact hX post m h
def dm_en (w : Nat) : Int32 := if w = 0 then 1 else 0
section
variable {xB xD xn xo xc xl oc xu xa pk xw en cn cb : Int32} {xr cv : Int64} {kd na nb se fn tg tn cT cB wN wF wB : Nat → Int32} {pF pS bo wV : Nat → Int64} {g m w : Nat} {post : Int32 → St2 → Prop}
theorem x_lE (hg : g < 1000000) (h : wpX_enterNode (fun r u => match u with | (xB, xD, xn, xo, xc, xl, oc, xu, xa, pk, xr, xw, en, cn, cb, cv, kd, na, nb, se, fn, tg, tn, pF, pS, cT, cB, bo, wN, wF, wB, wV) => wX_run_47 post (wX_run_18 post m) (nI g) r xB xD xn xo xc xl oc xu xa pk xr xw en cn cb cv kd na nb se fn tg tn pF pS cT cB bo wN wF wB wV) (xB, xD, xn, xo, xc, xl, oc, xu, xa, pk, xr, xw, 1, cn, cb, cv, kd, na, nb, se, fn, tg, tn, pF, pS, cT, cB, bo, wN, wF, wB, wV)) : dm_LX post (m + 1) 0 g (xB, xD, xn, xo, xc, xl, oc, xu, xa, pk, xr, xw, 1, cn, cb, cv, kd, na, nb, se, fn, tg, tn, pF, pS, cT, cB, bo, wN, wF, wB, wV) :=
  br_f (nI_ge (b := 1000000) hg (by omega)) (br_t rfl (br_f (by decide) h))
theorem x_lF (hg : g < 1000000) (h : wpX_resumeNode (fun r u => match u with | (xB, xD, xn, xo, xc, xl, oc, xu, xa, pk, xr, xw, en, cn, cb, cv, kd, na, nb, se, fn, tg, tn, pF, pS, cT, cB, bo, wN, wF, wB, wV) => wX_run_47 post (wX_run_18 post m) (nI g) r xB xD xn xo xc xl oc xu xa pk xr xw en cn cb cv kd na nb se fn tg tn pF pS cT cB bo wN wF wB wV) (xB, xD, xn, xo, xc, xl, oc, xu, xa, pk, xr, nI (w + 1), 0, cn, cb, cv, kd, na, nb, se, fn, tg, tn, pF, pS, cT, cB, bo, wN, wF, wB, wV)) : dm_LX post (m + 1) (dm_en (w + 1)) g (xB, xD, xn, xo, xc, xl, oc, xu, xa, pk, xr, nI (w + 1), 0, cn, cb, cv, kd, na, nb, se, fn, tg, tn, pF, pS, cT, cB, bo, wN, wF, wB, wV) :=
  br_f (nI_ge (b := 1000000) hg (by omega)) (br_t rfl (br_t rfl h))
theorem x_7E (h : dm_LX post m 0 (g + 1) (xB, xD, xn, xo, xc, xl, 0, xu, xa, pk, xr, xw, 1, cn, cb, cv, kd, na, nb, se, fn, tg, tn, pF, pS, cT, cB, bo, wN, wF, wB, wV)) : wX_run_47 post (wX_run_18 post m) (nI g) 0 xB xD xn xo xc xl oc xu xa pk xr xw 1 cn cb cv kd na nb se fn tg tn pF pS cT cB bo wN wF wB wV :=
  br_t rfl (br_f (by decide) (nm_r (nI_1 g) h))
theorem x_7F (hw : w < 1000) (h : dm_LX post m (dm_en w) (g + 1) (xB, xD, xn, xo, xc, xl, 0, xu, xa, pk, xr, nI w, 0, cn, cb, cv, kd, na, nb, se, fn, tg, tn, pF, pS, cT, cB, bo, wN, wF, wB, wV)) : wX_run_47 post (wX_run_18 post m) (nI g) 0 xB xD xn xo xc xl oc xu xa pk xr (nI w) 0 cn cb cv kd na nb se fn tg tn pF pS cT cB bo wN wF wB wV := by
  refine br_t rfl (br_t rfl ?_)
  cases w with
  | zero => exact br_t rfl (nm_r (nI_1 g) h)
  | succ w => exact br_f (nI_ne0 (by omega) (by omega)) (nm_r (nI_1 g) h)
theorem x_7e {z : Int32} (hz : ¬ z = 0) (h : post z (xB, xD, xn, xo, xc, xl, z, xu, xa, pk, xr, xw, en, cn, cb, cv, kd, na, nb, se, fn, tg, tn, pF, pS, cT, cB, bo, wN, wF, wB, wV)) : wX_run_47 post (wX_run_18 post (m + 1)) (nI g) z xB xD xn xo xc xl oc xu xa pk xr xw en cn cb cv kd na nb se fn tg tn pF pS cT cB bo wN wF wB wV := by
  refine br_f hz (nm_r (nI_1 g) ?_)
  by_cases c : 1000000 ≤ nI (g + 1)
  · exact br_t c (br_f hz h)
  · exact br_f c (br_f (by decide) (br_f hz h))
theorem x_end (h : post 0 (xB, xD, xn, xo, xc, xl, 0, xu, xa, pk, cv, xw, en, cn, cb, cv, kd, na, nb, se, fn, tg, tn, pF, pS, cT, cB, bo, wN, wF, wB, wV)) : dm_LX post (m + 1) 1 g (xB, xD, xn, xo, xc, xl, 0, xu, xa, pk, xr, xw, en, cn, cb, cv, kd, na, nb, se, fn, tg, tn, pF, pS, cT, cB, bo, wN, wF, wB, wV) := by
  by_cases c : 1000000 ≤ nI g
  · exact br_t c (br_t rfl h)
  · exact br_f c (br_f (by decide) (br_t rfl h))
end
end
section
/-! the runs side by side -/
def dm_Fx (kd na nb se fn tg tn : Nat → Int32) (n B D : Nat) : Prop := dm_Pg kd na nb n ∧ dm_Cp kd na nb se fn tg tn n ∧ 1 ≤ B ∧ B ≤ 64 ∧ 1 ≤ D ∧ D ≤ 8
def dm_SE (kd na nb se fn tg tn : Nat → Int32) (n B D K : Nat) : Prop := ∀ (m : Nat → Int64) (L : Nat → Nat → Nat) (p e : Nat) {oc : Int32} {cv : Int64} {pF pS : Nat → Int64} {cT cB : Nat → Int32} {bo : Nat → Int64} {wN wF wB : Nat → Int32} {wV : Nat → Int64} {vK vA vB eN eV eX fN fS fE fV : Nat → Int32} {hp ep un a w j gX q : Nat} {i s : Nat},
  dm_Wd kd na nb fn n B hp ep un m L bo vK vA vB pF pS cT cB eN eV eX → dm_St kd fn n hp ep un m L bo fN fS fE fV wN wF wB wV j w a p → i < n → fN j = nI i → fS j = 0 → fE j = dm_eI e → e ≤ ep → s ≤ un → dm_EO hp m (L e) (fun x => bo (s * 8 + x)) (fun x => bt (fn i) x = true) → j ≤ 32 * a + i → a ≤ q → q ≤ un → q ≤ D →
  p + 8 * (dm_E kd i - i) + 256 * (B - un) + 5 * hp < K → gX + K ≤ 16700 → dm_H B D K gX 0 (nI B, nI D, nI n, nI (dm_O kd n), 1, nI (dm_cnt kd n), oc, nI un, nI a, nI q, 0, nI w, 1, nI i, nI s, cv, kd, na, nb, se, fn, tg, tn, pF, pS, cT, cB, bo, wN, wF, wB, wV)
def dm_SF (kd na nb se fn tg tn : Nat → Int32) (n B D K : Nat) : Prop := ∀ (m : Nat → Int64) (L : Nat → Nat → Nat) (p c : Nat) {cn cb : Int32} {cv : Int64} {pF pS : Nat → Int64} {cT cB : Nat → Int32} {bo : Nat → Int64} {wN wF wB : Nat → Int32} {wV : Nat → Int64} {vK vA vB eN eV eX fN fS fE fV : Nat → Int32} {hp ep un a w j gX q : Nat},
  dm_Wd kd na nb fn n B hp ep un m L bo vK vA vB pF pS cT cB eN eV eX → dm_St kd fn n hp ep un m L bo fN fS fE fV wN wF wB wV j w a p → c < hp → cv = m c → a ≤ q → q ≤ un → q ≤ D →
  p + 256 * (B - un) + 5 * hp < K → gX + K ≤ 16700 → dm_H B D K gX (dm_en w) (nI B, nI D, nI n, nI (dm_O kd n), 1, nI (dm_cnt kd n), 0, nI un, nI a, nI q, 0, nI w, 0, cn, cb, cv, kd, na, nb, se, fn, tg, tn, pF, pS, cT, cB, bo, wN, wF, wB, wV)
section
variable {kd na nb f : Nat → Int32} {n hp ep un c : Nat} {m bo : Nat → Int64} {L : Nat → Nat → Nat} {vK vA vB : Nat → Int32} {pF pS : Nat → Int64} {cT cB : Nat → Int32}
theorem dm_HC_k (h : dm_HC kd na nb f n hp ep un m L bo vK vA vB pF pS cT cB c) : dm_kof (m c) = vK c := by
  rcases h with ⟨h1, h2⟩ | ⟨h1, p, a, b, h2, h3, h4, h5, h6, h7⟩ | ⟨h1, p, l, e, s, h2, h3, h4, h5, h6, h7, h8, h9⟩
  · rw [h1, h2, dm_val_k]
  · rw [h1, h6, dm_val_k]
  · rw [h1, h8, dm_val_k]
theorem dm_HC_i (h : dm_HC kd na nb f n hp ep un m L bo vK vA vB pF pS cT cB c) (hk : vK c = 1) : (m c).toInt32 = vA c := by
  rcases h with ⟨h1, h2⟩ | ⟨h1, h2⟩ | ⟨h1, h2⟩
  · rw [h2, dm_val_d]
  · rw [hk] at h1
    exact absurd h1 (by decide)
  · rw [hk] at h1
    exact absurd h1 (by decide)
theorem dm_HC_p (h : dm_HC kd na nb f n hp ep un m L bo vK vA vB pF pS cT cB c) (hk : vK c = 2) : ∃ p a b, 1 ≤ p ∧ p ≤ un ∧ a < c ∧ b < c ∧ (m c).toInt32 = nI p ∧ vA c = nI a ∧ vB c = nI b ∧ pF p = m a ∧ pS p = m b := by
  rcases h with ⟨h1, h2⟩ | ⟨h1, p, a, b, h2, h3, h4, h5, h6, h7⟩ | ⟨h1, h2⟩
  · rw [hk] at h1
    exact absurd h1 (by decide)
  · exact ⟨p, a, b, h2, h3, h4, h5, by rw [h6, dm_val_d], h7⟩
  · rw [hk] at h1
    exact absurd h1 (by decide)
theorem dm_HC_f (h : dm_HC kd na nb f n hp ep un m L bo vK vA vB pF pS cT cB c) (hk : vK c = 3) : ∃ p l e s, 1 ≤ p ∧ p ≤ un ∧ l < n ∧ (kd l = 13 ∨ kd l = 15) ∧ e ≤ ep ∧ s ≤ un ∧ (m c).toInt32 = nI p ∧ vA c = nI l ∧ vB c = dm_eI e ∧ cT p = nI (dm_cnt kd l) ∧ cB p = nI s ∧ dm_EO hp m (L e) (fun x => bo (s * 8 + x)) (dm_LW kd na nb f l) := by
  rcases h with ⟨h1, h2⟩ | ⟨h1, h2⟩ | ⟨h1, p, l, e, s, h2, h3, h4, h5, h6, h7, h8, h9⟩
  · rw [hk] at h1
    exact absurd h1 (by decide)
  · rw [hk] at h1
    exact absurd h1 (by decide)
  · exact ⟨p, l, e, s, h2, h3, h4, h5, h6, h7, by rw [h8, dm_val_d], h9⟩
theorem dm_HC_R (hu : un ≤ 64) (h : dm_HC kd na nb f n hp ep un m L bo vK vA vB pF pS cT cB c) : dm_RC kd n m vK vA vB pF pS cT c := by
  rcases h with h | ⟨h1, p, a, b, h2, h3, h4⟩ | ⟨h1, p, l, e, s, h2, h3, h4, h5, h6, h7, h8, h9, h10, h11, h12⟩
  · exact Or.inl h
  · exact Or.inr (Or.inl ⟨h1, p, a, b, by omega, h4⟩)
  · exact Or.inr (Or.inr ⟨h1, p, l, by omega, h4, h5, h8, h9, h11⟩)
theorem dm_nb0 {i : Nat} {x : Int32} (kF : dm_kF (kd i)) : ¬ dm_bd kd na nb i 0 x := by
  obtain ⟨n1, n2, n13, n15⟩ := dm_kF_n kF
  rintro (⟨g, _⟩ | ⟨_, g, _⟩ | ⟨g, _⟩)
  · exact n13 g
  · omega
  · exact n15 g
theorem dm_nb1 {i x y : Nat} (qA : na i = nI y) (hx : x < 8) (hy : y < 8) (e : x ≠ y) : ¬ dm_bd kd na nb i 1 (nI x) := by
  have e2 : ¬ na i = nI x := by
    rw [qA]
    exact fun g => e ((nI_eq (by omega) (by omega)).mp g).symm
  rintro (⟨_, g, _⟩ | ⟨_, _, g⟩ | ⟨_, ⟨g, _⟩ | ⟨_, g⟩⟩)
  · omega
  · exact e2 g
  · omega
  · exact e2 g
theorem dm_nbf {l x y : Nat} (k13 : ¬ kd l = 15) (qA : na l = nI y) (hx : x < 8) (hy : y < 8) (e : x ≠ y) : ¬ dm_bd kd na nb l 0 (nI x) := by
  have e2 : ¬ na l = nI x := by
    rw [qA]
    exact fun g => e ((nI_eq (by omega) (by omega)).mp g).symm
  rintro (⟨_, _, g⟩ | ⟨_, g, _⟩ | ⟨g, _⟩)
  · exact e2 g
  · omega
  · exact k13 g
theorem dm_nbr {l x y z : Nat} (k15 : kd l = 15) (qA : na l = nI y) (qB : nb l = nI z) (hx : x < 8) (hy : y < 8) (hz : z < 8) (e : x ≠ y) (e' : x ≠ z) : ¬ dm_bd kd na nb l 0 (nI x) := by
  rw [dm_bd, k15, qA, qB]
  rintro (⟨g, _⟩ | ⟨g, _⟩ | ⟨_, ⟨_, g | g⟩ | ⟨g, _⟩⟩)
  · exact absurd g (by decide)
  · exact absurd g (by decide)
  · exact e ((nI_eq (by omega) (by omega)).mp g).symm
  · exact e' ((nI_eq (by omega) (by omega)).mp g).symm
  · omega
theorem dm_kF_ar {k : Int32} (h : dm_kF k) : 1 ≤ dm_ar k := by
  rcases h with rfl | rfl | rfl | rfl | rfl | rfl | rfl | rfl | rfl | rfl | rfl | rfl <;> decide
theorem dm_kS_ar {k : Int32} (h : dm_kS k) : dm_ar k = 2 := by
  rcases h with rfl | rfl | rfl | rfl | rfl | rfl | rfl | rfl <;> decide
end
section
variable {kd na nb se fn tg tn : Nat → Int32} {n B D K : Nat} {m : Nat → Int64} {L : Nat → Nat → Nat} {p e c : Nat} {oc : Int32} {cn cb : Int32} {cv : Int64} {pF pS : Nat → Int64} {cT cB : Nat → Int32} {bo : Nat → Int64} {wN wF wB : Nat → Int32} {wV : Nat → Int64} {vK vA vB eN eV eX fN fS fE fV : Nat → Int32} {hp ep un a w j gX q : Nat} {i s : Nat}
theorem sE_num (X0 : dm_Fx kd na nb se fn tg tn n B D) (W : dm_Wd kd na nb fn n B hp ep un m L bo vK vA vB pF pS cT cB eN eV eX) (St : dm_St kd fn n hp ep un m L bo fN fS fE fV wN wF wB wV j w a p) (hi : i < n) (qN : fN j = nI i) (qS : fS j = 0) (qE : fE j = dm_eI e) (he : e ≤ ep) (hs : s ≤ un) (EO : dm_EO hp m (L e) (fun x => bo (s * 8 + x)) (fun x => bt (fn i) x = true)) (hpos : j ≤ 32 * a + i) (ha1 : a ≤ q) (ha2 : q ≤ un) (ha3 : q ≤ D) (hpot : p + 8 * (dm_E kd i - i) + 256 * (B - un) + 5 * hp < K + 1) (gx : gX + (K + 1) ≤ 16700) (hF : dm_SF kd na nb se fn tg tn n B D K) (qK : kd i = 1) : dm_H B D (K + 1) gX 0 (nI B, nI D, nI n, nI (dm_O kd n), 1, nI (dm_cnt kd n), oc, nI un, nI a, nI q, 0, nI w, 1, nI i, nI s, cv, kd, na, nb, se, fn, tg, tn, pF, pS, cT, cB, bo, wN, wF, wB, wV) := by
  obtain ⟨P, C, b1, b2, d1, d2⟩ := X0
  have T : dm_Tr kd n := ⟨P.2.1, C.1⟩
  have hn := P.1
  have hE1 := dm_E_gt T hi
  have hE2 := dm_E_le T hi
  have hwj := dm_St_le _ _ _ _ St
  have hep := W.2.2.1
  have hun := W.2.2.2
  have hh : hp < 4096 := by omega
  have hj : j < 300 := by omega
  obtain ⟨X, W2⟩ := dm_Wd_int W (na i) 0
  have St2 := dm_St_x X j w a p (fun _ _ => ⟨rfl, rfl, rfl, rfl⟩) (fun _ _ => ⟨rfl, rfl, rfl, rfl⟩) St
  refine dm_H_s (fun post m h => x_lE (by omega) (x_e_num (by omega) qK (x_7F (by omega) h))) ?_
  exact hF _ L p hp W2 St2 (by omega) pk_uLs.symm (by omega) (by omega) (by omega) (by omega) (by omega)
theorem sE_var (X0 : dm_Fx kd na nb se fn tg tn n B D) (W : dm_Wd kd na nb fn n B hp ep un m L bo vK vA vB pF pS cT cB eN eV eX) (St : dm_St kd fn n hp ep un m L bo fN fS fE fV wN wF wB wV j w a p) (hi : i < n) (qN : fN j = nI i) (qS : fS j = 0) (qE : fE j = dm_eI e) (he : e ≤ ep) (hs : s ≤ un) (EO : dm_EO hp m (L e) (fun x => bo (s * 8 + x)) (fun x => bt (fn i) x = true)) (hpos : j ≤ 32 * a + i) (ha1 : a ≤ q) (ha2 : q ≤ un) (ha3 : q ≤ D) (hpot : p + 8 * (dm_E kd i - i) + 256 * (B - un) + 5 * hp < K + 1) (gx : gX + (K + 1) ≤ 16700) (hF : dm_SF kd na nb se fn tg tn n B D K) (qK : kd i = 2) : dm_H B D (K + 1) gX 0 (nI B, nI D, nI n, nI (dm_O kd n), 1, nI (dm_cnt kd n), oc, nI un, nI a, nI q, 0, nI w, 1, nI i, nI s, cv, kd, na, nb, se, fn, tg, tn, pF, pS, cT, cB, bo, wN, wF, wB, wV) := by
  obtain ⟨P, C, b1, b2, d1, d2⟩ := X0
  have T : dm_Tr kd n := ⟨P.2.1, C.1⟩
  have hn := P.1
  have hE1 := dm_E_gt T hi
  have hE2 := dm_E_le T hi
  have hwj := dm_St_le _ _ _ _ St
  have hep := W.2.2.1
  have hun := W.2.2.2
  have hh : hp < 4096 := by omega
  have hj : j < 300 := by omega
  obtain ⟨y, hy, ey⟩ := (P.2.2 i hi).2.1 (Or.inl qK)
  obtain ⟨c, hc, hL, hb⟩ := EO y hy ((C.2.2.1 i hi y (by omega)).mpr (Or.inl ⟨qK, ey⟩))
  refine dm_H_s (fun post m h => x_lE (by omega) (x_e_var (by omega) qK ey hy (by omega) (x_7F (by omega) h))) ?_
  exact hF m L p c W St hc hb (by omega) (by omega) (by omega) (by omega) (by omega)
theorem sE_fun (X0 : dm_Fx kd na nb se fn tg tn n B D) (W : dm_Wd kd na nb fn n B hp ep un m L bo vK vA vB pF pS cT cB eN eV eX) (St : dm_St kd fn n hp ep un m L bo fN fS fE fV wN wF wB wV j w a p) (hi : i < n) (qN : fN j = nI i) (qS : fS j = 0) (qE : fE j = dm_eI e) (he : e ≤ ep) (hs : s ≤ un) (EO : dm_EO hp m (L e) (fun x => bo (s * 8 + x)) (fun x => bt (fn i) x = true)) (hpos : j ≤ 32 * a + i) (ha1 : a ≤ q) (ha2 : q ≤ un) (ha3 : q ≤ D) (hpot : p + 8 * (dm_E kd i - i) + 256 * (B - un) + 5 * hp < K + 1) (gx : gX + (K + 1) ≤ 16700) (hF : dm_SF kd na nb se fn tg tn n B D K) (qK : kd i = 13) : dm_H B D (K + 1) gX 0 (nI B, nI D, nI n, nI (dm_O kd n), 1, nI (dm_cnt kd n), oc, nI un, nI a, nI q, 0, nI w, 1, nI i, nI s, cv, kd, na, nb, se, fn, tg, tn, pF, pS, cT, cB, bo, wN, wF, wB, wV) := by
  obtain ⟨P, C, b1, b2, d1, d2⟩ := X0
  have T : dm_Tr kd n := ⟨P.2.1, C.1⟩
  have hn := P.1
  have hE1 := dm_E_gt T hi
  have hE2 := dm_E_le T hi
  have hwj := dm_St_le _ _ _ _ St
  have hep := W.2.2.1
  have hun := W.2.2.2
  have hh : hp < 4096 := by omega
  have hj : j < 300 := by omega
  by_cases hu : un < B
  · have EOl : dm_EO hp m (L e) (fun x => bo (s * 8 + x)) (dm_LW kd na nb fn i) := dm_EO_w EO (fun x hx hw => (C.2.2.1 i hi x (by omega)).mpr (Or.inr ⟨0, by rw [qK]; decide, hw.1, hw.2⟩))
    obtain ⟨X, W2⟩ := dm_Wd_fun (l := i) (bo' := bo) W hu hi (Or.inl qK) he hs (fun _ _ => rfl) EOl
    have et := (C.2.2.2.2 i hi (Or.inl qK)).1
    rw [← et] at W2
    have St2 := dm_St_x X j w a p (fun _ _ => ⟨rfl, rfl, rfl, rfl⟩) (fun _ _ => ⟨rfl, rfl, rfl, rfl⟩) St
    refine dm_H_s (fun post m h => x_lE (by omega) (x_e_fun (by omega) qK hu b2 (x_7F (by omega) h))) ?_
    exact hF _ L p hp W2 St2 (by omega) pk_uLs.symm (by omega) (by omega) (by omega) (by omega) (by omega)
  · have eu : un = B := by omega
    subst eu
    refine dm_H_e (by omega) ?_ (fun post m h => x_lE (by omega) (x_e_fun12 (by omega) qK (x_7e (by decide) h)))
    exact ⟨n, q, _, rfl, rfl, rfl, rfl, rfl, rfl, ha2, by omega, ha3, fun _ => rfl, fun g => absurd g (by decide), b1, b2, d1, d2, P, Or.inr ⟨rfl, rfl, C, dm_R10⟩⟩
theorem sE_rec (X0 : dm_Fx kd na nb se fn tg tn n B D) (W : dm_Wd kd na nb fn n B hp ep un m L bo vK vA vB pF pS cT cB eN eV eX) (St : dm_St kd fn n hp ep un m L bo fN fS fE fV wN wF wB wV j w a p) (hi : i < n) (qN : fN j = nI i) (qS : fS j = 0) (qE : fE j = dm_eI e) (he : e ≤ ep) (hs : s ≤ un) (EO : dm_EO hp m (L e) (fun x => bo (s * 8 + x)) (fun x => bt (fn i) x = true)) (hpos : j ≤ 32 * a + i) (ha1 : a ≤ q) (ha2 : q ≤ un) (ha3 : q ≤ D) (hpot : p + 8 * (dm_E kd i - i) + 256 * (B - un) + 5 * hp < K + 1) (gx : gX + (K + 1) ≤ 16700) (hE : dm_SE kd na nb se fn tg tn n B D K) (qK : kd i = 15) : dm_H B D (K + 1) gX 0 (nI B, nI D, nI n, nI (dm_O kd n), 1, nI (dm_cnt kd n), oc, nI un, nI a, nI q, 0, nI w, 1, nI i, nI s, cv, kd, na, nb, se, fn, tg, tn, pF, pS, cT, cB, bo, wN, wF, wB, wV) := by
  obtain ⟨P, C, b1, b2, d1, d2⟩ := X0
  have T : dm_Tr kd n := ⟨P.2.1, C.1⟩
  have hn := P.1
  have hE1 := dm_E_gt T hi
  have hE2 := dm_E_le T hi
  have hwj := dm_St_le _ _ _ _ St
  have hep := W.2.2.1
  have hun := W.2.2.2
  have hh : hp < 4096 := by omega
  have hj : j < 300 := by omega
  obtain ⟨y, hy, ey⟩ := (P.2.2 i hi).2.1 (Or.inr (Or.inr (Or.inr qK)))
  have ar2 : dm_ar (kd i) = 2 := by
    rw [qK]
    decide
  have h0 := dm_ch_lt T hi (c := 0) (by omega)
  have h1 := dm_ch_lt T hi (c := 1) (by omega)
  have h1g := dm_ch_gt T hi (c := 1) (by omega)
  have h1E := dm_ch_in T hi (c := 1) (by omega)
  rw [dm_ch0] at h0
  by_cases hu : un < B
  · have EOl : dm_EO hp m (L e) (fun x => bo (s * 8 + x)) (dm_LW kd na nb fn i) := dm_EO_w EO (fun x hx hw => (C.2.2.1 i hi x (by omega)).mpr (Or.inr ⟨0, by omega, hw.1, hw.2⟩))
    obtain ⟨X, W2⟩ := dm_Wd_fun (l := i) (bo' := vp_updL (dm_cp bo s (un + 1) 8) ((un + 1) * 8 + y) (dm_val 3 (nI (un + 1)))) W hu hi (Or.inr qK) he hs (fun k hk => by rw [dm_b1_lo hk, dm_cp_lo hk]) EOl
    have et := (C.2.2.2.2 i hi (Or.inr qK)).1
    rw [← et] at W2
    obtain ⟨X2, W3⟩ := dm_Wd_env (c := hp) W2 hy (by omega) he (by omega)
    have X3 := dm_Ex_t X X2
    have St2 := dm_St_x (fN' := upd fN (j + 1) (nI (dm_ch kd i 1))) (fS' := upd (upd fS j 1) (j + 1) 0) (fE' := upd fE (j + 1) (nI ep)) (fV' := upd fV (j + 1) (-1)) X3 j w a p (fun q hq => ⟨pk_un (by omega), by rw [pk_un (by omega), pk_un (by omega)], pk_un (by omega), pk_un (by omega)⟩) (fun _ _ => ⟨rfl, rfl, rfl, rfl⟩) St
    refine dm_H_s (fun post m h => x_lE (by omega) (x_e_rec hn h0 qK ey hy hs (C.2.1 _ h0) hu b2 (x_7E h))) ?_
    refine hE _ _ (p + 1) (ep + 1) W3 (dm_St_T St2 hi (by rw [pk_un (by omega), qN]) (Or.inr (Or.inr ⟨qK, by rw [pk_un (by omega), pk_us]⟩)) hpos) h1 pk_us pk_us (by rw [pk_us, dm_eIs]) (Nat.le_refl _) (Nat.le_refl _) ?_ (by omega) (by omega) (by omega) (by omega) (by omega) (by omega)
    refine dm_EO_b (y := y) (c0 := hp) (Le := L e) (bs := fun x => bo (s * 8 + x)) ?_ (by omega) (fun x hx => dm_Ls_n) (fun x hx => ?_)
    · refine dm_EO_x (dm_EO_w EO (fun x hx hw => ?_)) (Nat.le_succ hp) (fun c hc => pk_uLn (by omega)) (fun _ _ => rfl) (fun _ _ => rfl)
      exact (C.2.2.1 i hi x (by omega)).mpr (Or.inr ⟨1, by omega, hw.1, dm_nb1 ey hx hy hw.2⟩)
    · rw [dm_b1_in, pk_uLs, dm_cp_in hx]
  · have eu : un = B := by omega
    subst eu
    refine dm_H_e (by omega) ?_ (fun post m h => x_lE (by omega) (x_e_rec12 (by omega) qK (x_7e (by decide) h)))
    exact ⟨n, q, _, rfl, rfl, rfl, rfl, rfl, rfl, ha2, by omega, ha3, fun _ => rfl, fun g => absurd g (by decide), b1, b2, d1, d2, P, Or.inr ⟨rfl, rfl, C, dm_R10⟩⟩
theorem sE_oth (X0 : dm_Fx kd na nb se fn tg tn n B D) (W : dm_Wd kd na nb fn n B hp ep un m L bo vK vA vB pF pS cT cB eN eV eX) (St : dm_St kd fn n hp ep un m L bo fN fS fE fV wN wF wB wV j w a p) (hi : i < n) (qN : fN j = nI i) (qS : fS j = 0) (qE : fE j = dm_eI e) (he : e ≤ ep) (hs : s ≤ un) (EO : dm_EO hp m (L e) (fun x => bo (s * 8 + x)) (fun x => bt (fn i) x = true)) (hpos : j ≤ 32 * a + i) (ha1 : a ≤ q) (ha2 : q ≤ un) (ha3 : q ≤ D) (hpot : p + 8 * (dm_E kd i - i) + 256 * (B - un) + 5 * hp < K + 1) (gx : gX + (K + 1) ≤ 16700) (hE : dm_SE kd na nb se fn tg tn n B D K) (kF : dm_kF (kd i)) : dm_H B D (K + 1) gX 0 (nI B, nI D, nI n, nI (dm_O kd n), 1, nI (dm_cnt kd n), oc, nI un, nI a, nI q, 0, nI w, 1, nI i, nI s, cv, kd, na, nb, se, fn, tg, tn, pF, pS, cT, cB, bo, wN, wF, wB, wV) := by
  obtain ⟨P, C, b1, b2, d1, d2⟩ := X0
  have T : dm_Tr kd n := ⟨P.2.1, C.1⟩
  have hn := P.1
  have hE1 := dm_E_gt T hi
  have hE2 := dm_E_le T hi
  have hwj := dm_St_le _ _ _ _ St
  have hep := W.2.2.1
  have hun := W.2.2.2
  have hh : hp < 4096 := by omega
  have hj : j < 300 := by omega
  have ar1 := dm_kF_ar kF
  have h0 := dm_ch_lt T hi (c := 0) (by omega)
  have h0E := dm_ch_in T hi (c := 0) (by omega)
  rw [dm_ch0] at h0 h0E
  have h0g := dm_E_gt T h0
  have St2 := dm_St_x (fN' := upd fN (j + 1) (nI (i + 1))) (fS' := upd (upd fS j 1) (j + 1) 0) (fE' := upd fE (j + 1) (dm_eI e)) (fV' := upd fV (j + 1) (-1)) (wN' := upd wN w (nI i)) (wF' := upd wF w 0) (wB' := upd wB w (nI s)) (wV' := wV) (dm_Ex_r (hp := hp) (ep := ep) (un := un) (m := m) (bo := bo) (L := L)) j w a p (fun q hq => ⟨pk_un (by omega), by rw [pk_un (by omega), pk_un (by omega)], pk_un (by omega), pk_un (by omega)⟩) (fun q hq => ⟨pk_un (by omega), pk_un (by omega), pk_un (by omega), rfl⟩) St
  refine dm_H_s (fun post m h => x_lE (by omega) (x_e_oth (by omega) kF (by omega) (x_7E h))) ?_
  refine hE m L (p + 7 + 8 * (dm_E kd i - dm_E kd (i + 1))) e W (dm_St_F St2 hi (by rw [pk_un (by omega), qN]) (by rw [pk_un (by omega), pk_us]) kF pk_us pk_us (by rw [pk_un (by omega), qE]) pk_us he hs EO hpos) h0 pk_us pk_us pk_us he hs ?_ (by omega) (by omega) (by omega) (by omega) (by omega) (by omega)
  exact dm_EO_w EO (fun x hx hw => (C.2.2.1 i hi x (by omega)).mpr (Or.inr ⟨0, by omega, hw, dm_nb0 kF⟩))
end
end
section
/-! the runs side by side: a value is found -/
section
variable {kd na nb se fn tg tn : Nat → Int32} {n B D K : Nat} {m : Nat → Int64} {L : Nat → Nat → Nat} {p e c d : Nat} {cn cb : Int32} {cv : Int64} {pF pS : Nat → Int64} {cT cB : Nat → Int32} {bo : Nat → Int64} {wN wF wB : Nat → Int32} {wV : Nat → Int64} {vK vA vB eN eV eX fN fS fE fV : Nat → Int32} {hp ep un a w j gX q : Nat} {i s : Nat}
theorem sF_T (X0 : dm_Fx kd na nb se fn tg tn n B D) (W : dm_Wd kd na nb fn n B hp ep un m L bo vK vA vB pF pS cT cB eN eV eX) (hi : i < n) (qN : fN j = nI i) (hc : c < hp) (qv : cv = m c) (ha1 : a ≤ q) (ha2 : q ≤ un) (ha3 : q ≤ D) (hpot : (p + 1) + 256 * (B - un) + 5 * hp < K + 1) (gx : gX + (K + 1) ≤ 16700) (St : dm_St kd fn n hp ep un m L bo fN fS fE fV wN wF wB wV j w a p) (kT : dm_kT (kd i) (fS j)) (hpos : j ≤ 32 * a + i) (hF : dm_SF kd na nb se fn tg tn n B D K) : dm_H B D (K + 1) gX (dm_en w) (nI B, nI D, nI n, nI (dm_O kd n), 1, nI (dm_cnt kd n), 0, nI un, nI a, nI q, 0, nI w, 0, cn, cb, cv, kd, na, nb, se, fn, tg, tn, pF, pS, cT, cB, bo, wN, wF, wB, wV) := by
  obtain ⟨P, C, b1, b2, d1, d2⟩ := X0
  have T : dm_Tr kd n := ⟨P.2.1, C.1⟩
  have hn := P.1
  have hE1 := dm_E_gt T hi
  have hE2 := dm_E_le T hi
  have hwj := dm_St_le _ _ _ _ St
  have hep := W.2.2.1
  have hun := W.2.2.2
  have hh : hp < 4096 := by omega
  have hj : j < 300 := by omega
  have hc4 : c < 4096 := by omega
  have hk := dm_HC_k (W.1 c hc)
  rw [← qv] at hk
  refine dm_H_y ?_
  exact hF m L p c W St hc qv (by omega) (by omega) (by omega) (by omega) (by omega)
theorem sF_B (X0 : dm_Fx kd na nb se fn tg tn n B D) (W : dm_Wd kd na nb fn n B hp ep un m L bo vK vA vB pF pS cT cB eN eV eX) (hi : i < n) (qN : fN j = nI i) (hc : c < hp) (qv : cv = m c) (ha1 : a + 1 ≤ q) (ha2 : q ≤ un) (ha3 : q ≤ D) (hpot : (p + 1) + 256 * (B - un) + 5 * hp < K + 1) (gx : gX + (K + 1) ≤ 16700) (St : dm_St kd fn n hp ep un m L bo fN fS fE fV wN wF wB wV j w a p) (qK : kd i = 16) (qS : fS j = 3) (qW : wN w = nI i) (qF : wF w = 2) (hpos : j ≤ 32 * a + i) (hF : dm_SF kd na nb se fn tg tn n B D K) : dm_H B D (K + 1) gX (dm_en (w + 1)) (nI B, nI D, nI n, nI (dm_O kd n), 1, nI (dm_cnt kd n), 0, nI un, nI (a + 1), nI q, 0, nI (w + 1), 0, cn, cb, cv, kd, na, nb, se, fn, tg, tn, pF, pS, cT, cB, bo, wN, wF, wB, wV) := by
  obtain ⟨P, C, b1, b2, d1, d2⟩ := X0
  have T : dm_Tr kd n := ⟨P.2.1, C.1⟩
  have hn := P.1
  have hE1 := dm_E_gt T hi
  have hE2 := dm_E_le T hi
  have hwj := dm_St_le _ _ _ _ St
  have hep := W.2.2.1
  have hun := W.2.2.2
  have hh : hp < 4096 := by omega
  have hj : j < 300 := by omega
  have hc4 : c < 4096 := by omega
  have hk := dm_HC_k (W.1 c hc)
  rw [← qv] at hk
  refine dm_H_s (fun post m h => x_lF (by omega) (x_r_body (by omega) qW (by omega) qF qK (x_7F (by omega) h))) ?_
  exact hF m L p c W St hc qv (by omega) (by omega) (by omega) (by omega) (by omega)
theorem sF_if (X0 : dm_Fx kd na nb se fn tg tn n B D) (W : dm_Wd kd na nb fn n B hp ep un m L bo vK vA vB pF pS cT cB eN eV eX) (hi : i < n) (qN : fN j = nI i) (hc : c < hp) (qv : cv = m c) (ha1 : a ≤ q) (ha2 : q ≤ un) (ha3 : q ≤ D) (hpot : (p + 7 + 8 * (dm_E kd i - dm_E kd (i + 1))) + 256 * (B - un) + 5 * hp < K + 1) (gx : gX + (K + 1) ≤ 16700) (St : dm_St kd fn n hp ep un m L bo fN fS fE fV wN wF wB wV j w a p) (qS : fS j = 1) (qW : wN w = nI i) (qF : wF w = 0) (qE : fE j = dm_eI e) (qB : wB w = nI s) (he : e ≤ ep) (hs : s ≤ un) (EO : dm_EO hp m (L e) (fun x => bo (s * 8 + x)) (fun x => bt (fn i) x = true)) (hpos : j ≤ 32 * a + i) (qK : kd i = 9) (hE : dm_SE kd na nb se fn tg tn n B D K) : dm_H B D (K + 1) gX (dm_en (w + 1)) (nI B, nI D, nI n, nI (dm_O kd n), 1, nI (dm_cnt kd n), 0, nI un, nI a, nI q, 0, nI (w + 1), 0, cn, cb, cv, kd, na, nb, se, fn, tg, tn, pF, pS, cT, cB, bo, wN, wF, wB, wV) := by
  obtain ⟨P, C, b1, b2, d1, d2⟩ := X0
  have T : dm_Tr kd n := ⟨P.2.1, C.1⟩
  have hn := P.1
  have hE1 := dm_E_gt T hi
  have hE2 := dm_E_le T hi
  have hwj := dm_St_le _ _ _ _ St
  have hep := W.2.2.1
  have hun := W.2.2.2
  have hh : hp < 4096 := by omega
  have hj : j < 300 := by omega
  have hc4 : c < 4096 := by omega
  have hk := dm_HC_k (W.1 c hc)
  rw [← qv] at hk
  have ar3 : dm_ar (kd i) = 3 := by
    rw [qK]
    decide
  have h0 := dm_ch_lt T hi (c := 0) (by omega)
  rw [dm_ch0] at h0
  have h1 := dm_ch_lt T hi (c := 1) (by omega)
  by_cases k1 : vK c = 1
  · have ev : cv.toInt32 = vA c := by
      rw [qv]
      exact dm_HC_i (W.1 c hc) k1
    obtain ⟨b, hb, hb2⟩ : ∃ b, ((vA c = 0 ∧ b = 2) ∨ (¬ vA c = 0 ∧ b = 1)) ∧ (b = 1 ∨ b = 2) := by
      by_cases z : vA c = 0
      · exact ⟨2, Or.inl ⟨z, rfl⟩, Or.inr rfl⟩
      · exact ⟨1, Or.inr ⟨z, rfl⟩, Or.inl rfl⟩
    have hbl := dm_ch_lt T hi (c := b) (by omega)
    have hbg := dm_ch_gt T hi (c := b) (by omega)
    have hbE := dm_ch_in T hi (c := b) (by omega)
    have hbm := dm_ch_mono T hi b 0 (by omega) (by omega)
    rw [dm_ch0] at hbm
    have hbgt := dm_E_gt T hbl
    have St2 := dm_St_x (fN' := upd fN (j + 1) (nI (dm_ch kd i b))) (fS' := upd (upd fS j 2) (j + 1) 0) (fE' := upd fE (j + 1) (dm_eI e)) (fV' := upd fV (j + 1) (-1)) (dm_Ex_r (hp := hp) (ep := ep) (un := un) (m := m) (bo := bo) (L := L)) j w a p (fun q hq => ⟨pk_un (by omega), by rw [pk_un (by omega), pk_un (by omega)], pk_un (by omega), pk_un (by omega)⟩) (fun _ _ => ⟨rfl, rfl, rfl, rfl⟩) St
    refine dm_H_s (fun post m h => x_lF (by omega) (x_r_if hn h0 h1 C.2.1 (by omega) qW qK (by rw [hk, k1]) (by rw [ev]; exact hb) (x_7E h))) ?_
    rw [qB]
    refine hE m L (p + 1) e W (dm_St_T St2 hi (by rw [pk_un (by omega), qN]) (Or.inl ⟨qK, by rw [pk_un (by omega), pk_us]⟩) hpos) hbl pk_us pk_us pk_us he hs ?_ (by omega) (by omega) (by omega) (by omega) (by omega) (by omega)
    refine dm_EO_w EO (fun x hx hw => (C.2.2.1 i hi x (by omega)).mpr (Or.inr ⟨b, by omega, hw, ?_⟩))
    rintro (⟨g, _⟩ | ⟨g, _⟩ | ⟨g, _⟩) <;> rw [qK] at g <;> exact absurd g (by decide)
  · refine dm_H_e (by omega) ?_ (fun post m h => x_lF (by omega) (x_r_if8 (by omega) qW (by omega) qK (by rw [hk]; exact k1) (x_7e (by decide) h)))
    exact ⟨n, q, _, rfl, rfl, rfl, rfl, rfl, rfl, ha2, by omega, ha3, fun g => absurd g (by decide), fun g => absurd g (by decide), b1, b2, d1, d2, P, Or.inr ⟨rfl, rfl, C, dm_R10⟩⟩
theorem sF_fst (X0 : dm_Fx kd na nb se fn tg tn n B D) (W : dm_Wd kd na nb fn n B hp ep un m L bo vK vA vB pF pS cT cB eN eV eX) (hi : i < n) (qN : fN j = nI i) (hc : c < hp) (qv : cv = m c) (ha1 : a ≤ q) (ha2 : q ≤ un) (ha3 : q ≤ D) (hpot : (p + 7 + 8 * (dm_E kd i - dm_E kd (i + 1))) + 256 * (B - un) + 5 * hp < K + 1) (gx : gX + (K + 1) ≤ 16700) (St : dm_St kd fn n hp ep un m L bo fN fS fE fV wN wF wB wV j w a p) (qS : fS j = 1) (qW : wN w = nI i) (qF : wF w = 0) (qE : fE j = dm_eI e) (qB : wB w = nI s) (he : e ≤ ep) (hs : s ≤ un) (EO : dm_EO hp m (L e) (fun x => bo (s * 8 + x)) (fun x => bt (fn i) x = true)) (hpos : j ≤ 32 * a + i) (qK : kd i = 11) (hF : dm_SF kd na nb se fn tg tn n B D K) : dm_H B D (K + 1) gX (dm_en (w + 1)) (nI B, nI D, nI n, nI (dm_O kd n), 1, nI (dm_cnt kd n), 0, nI un, nI a, nI q, 0, nI (w + 1), 0, cn, cb, cv, kd, na, nb, se, fn, tg, tn, pF, pS, cT, cB, bo, wN, wF, wB, wV) := by
  obtain ⟨P, C, b1, b2, d1, d2⟩ := X0
  have T : dm_Tr kd n := ⟨P.2.1, C.1⟩
  have hn := P.1
  have hE1 := dm_E_gt T hi
  have hE2 := dm_E_le T hi
  have hwj := dm_St_le _ _ _ _ St
  have hep := W.2.2.1
  have hun := W.2.2.2
  have hh : hp < 4096 := by omega
  have hj : j < 300 := by omega
  have hc4 : c < 4096 := by omega
  have hk := dm_HC_k (W.1 c hc)
  rw [← qv] at hk
  by_cases k2 : vK c = 2
  · obtain ⟨p1, a1, c1, t1, t2, t3, t4, t5, t6, t7, t8, t9⟩ := dm_HC_p (W.1 c hc) k2
    have ev : cv.toInt32 = nI p1 := by
      rw [qv]
      exact t5
    refine dm_H_s (fun post m h => x_lF (by omega) (x_r_fst (by omega) qW (by omega) qK (by rw [hk, k2]) ev (by omega) (x_7F (by omega) h))) ?_
    exact hF m L p a1 W St (by omega) t8 (by omega) (by omega) (by omega) (by omega) (by omega)
  · refine dm_H_e (by omega) ?_ (fun post m h => x_lF (by omega) (x_r_part10 (by omega) qW (by omega) (Or.inl qK) (by rw [hk]; exact k2) (x_7e (by decide) h)))
    exact ⟨n, q, _, rfl, rfl, rfl, rfl, rfl, rfl, ha2, by omega, ha3, fun g => absurd g (by decide), fun g => absurd g (by decide), b1, b2, d1, d2, P, Or.inr ⟨rfl, rfl, C, dm_R10⟩⟩
theorem sF_snd (X0 : dm_Fx kd na nb se fn tg tn n B D) (W : dm_Wd kd na nb fn n B hp ep un m L bo vK vA vB pF pS cT cB eN eV eX) (hi : i < n) (qN : fN j = nI i) (hc : c < hp) (qv : cv = m c) (ha1 : a ≤ q) (ha2 : q ≤ un) (ha3 : q ≤ D) (hpot : (p + 7 + 8 * (dm_E kd i - dm_E kd (i + 1))) + 256 * (B - un) + 5 * hp < K + 1) (gx : gX + (K + 1) ≤ 16700) (St : dm_St kd fn n hp ep un m L bo fN fS fE fV wN wF wB wV j w a p) (qS : fS j = 1) (qW : wN w = nI i) (qF : wF w = 0) (qE : fE j = dm_eI e) (qB : wB w = nI s) (he : e ≤ ep) (hs : s ≤ un) (EO : dm_EO hp m (L e) (fun x => bo (s * 8 + x)) (fun x => bt (fn i) x = true)) (hpos : j ≤ 32 * a + i) (qK : kd i = 12) (hF : dm_SF kd na nb se fn tg tn n B D K) : dm_H B D (K + 1) gX (dm_en (w + 1)) (nI B, nI D, nI n, nI (dm_O kd n), 1, nI (dm_cnt kd n), 0, nI un, nI a, nI q, 0, nI (w + 1), 0, cn, cb, cv, kd, na, nb, se, fn, tg, tn, pF, pS, cT, cB, bo, wN, wF, wB, wV) := by
  obtain ⟨P, C, b1, b2, d1, d2⟩ := X0
  have T : dm_Tr kd n := ⟨P.2.1, C.1⟩
  have hn := P.1
  have hE1 := dm_E_gt T hi
  have hE2 := dm_E_le T hi
  have hwj := dm_St_le _ _ _ _ St
  have hep := W.2.2.1
  have hun := W.2.2.2
  have hh : hp < 4096 := by omega
  have hj : j < 300 := by omega
  have hc4 : c < 4096 := by omega
  have hk := dm_HC_k (W.1 c hc)
  rw [← qv] at hk
  by_cases k2 : vK c = 2
  · obtain ⟨p1, a1, c1, t1, t2, t3, t4, t5, t6, t7, t8, t9⟩ := dm_HC_p (W.1 c hc) k2
    have ev : cv.toInt32 = nI p1 := by
      rw [qv]
      exact t5
    refine dm_H_s (fun post m h => x_lF (by omega) (x_r_snd (by omega) qW (by omega) qK (by rw [hk, k2]) ev (by omega) (x_7F (by omega) h))) ?_
    exact hF m L p c1 W St (by omega) t9 (by omega) (by omega) (by omega) (by omega) (by omega)
  · refine dm_H_e (by omega) ?_ (fun post m h => x_lF (by omega) (x_r_part10 (by omega) qW (by omega) (Or.inr qK) (by rw [hk]; exact k2) (x_7e (by decide) h)))
    exact ⟨n, q, _, rfl, rfl, rfl, rfl, rfl, rfl, ha2, by omega, ha3, fun g => absurd g (by decide), fun g => absurd g (by decide), b1, b2, d1, d2, P, Or.inr ⟨rfl, rfl, C, dm_R10⟩⟩
theorem sF_let (X0 : dm_Fx kd na nb se fn tg tn n B D) (W : dm_Wd kd na nb fn n B hp ep un m L bo vK vA vB pF pS cT cB eN eV eX) (hi : i < n) (qN : fN j = nI i) (hc : c < hp) (qv : cv = m c) (ha1 : a ≤ q) (ha2 : q ≤ un) (ha3 : q ≤ D) (hpot : (p + 7 + 8 * (dm_E kd i - dm_E kd (i + 1))) + 256 * (B - un) + 5 * hp < K + 1) (gx : gX + (K + 1) ≤ 16700) (St : dm_St kd fn n hp ep un m L bo fN fS fE fV wN wF wB wV j w a p) (qS : fS j = 1) (qW : wN w = nI i) (qF : wF w = 0) (qE : fE j = dm_eI e) (qB : wB w = nI s) (he : e ≤ ep) (hs : s ≤ un) (EO : dm_EO hp m (L e) (fun x => bo (s * 8 + x)) (fun x => bt (fn i) x = true)) (hpos : j ≤ 32 * a + i) (qK : kd i = 14) (hE : dm_SE kd na nb se fn tg tn n B D K) : dm_H B D (K + 1) gX (dm_en (w + 1)) (nI B, nI D, nI n, nI (dm_O kd n), 1, nI (dm_cnt kd n), 0, nI un, nI a, nI q, 0, nI (w + 1), 0, cn, cb, cv, kd, na, nb, se, fn, tg, tn, pF, pS, cT, cB, bo, wN, wF, wB, wV) := by
  obtain ⟨P, C, b1, b2, d1, d2⟩ := X0
  have T : dm_Tr kd n := ⟨P.2.1, C.1⟩
  have hn := P.1
  have hE1 := dm_E_gt T hi
  have hE2 := dm_E_le T hi
  have hwj := dm_St_le _ _ _ _ St
  have hep := W.2.2.1
  have hun := W.2.2.2
  have hh : hp < 4096 := by omega
  have hj : j < 300 := by omega
  have hc4 : c < 4096 := by omega
  have hk := dm_HC_k (W.1 c hc)
  rw [← qv] at hk
  obtain ⟨y, hy, ey⟩ := (P.2.2 i hi).2.1 (Or.inr (Or.inr (Or.inl qK)))
  have ar2 : dm_ar (kd i) = 2 := by
    rw [qK]
    decide
  have h0 := dm_ch_lt T hi (c := 0) (by omega)
  rw [dm_ch0] at h0
  have h1 := dm_ch_lt T hi (c := 1) (by omega)
  have h1g := dm_ch_gt T hi (c := 1) (by omega)
  have h1E := dm_ch_in T hi (c := 1) (by omega)
  have h1m := dm_ch_mono T hi 1 0 (by omega) (by omega)
  rw [dm_ch0] at h1m
  have h1gt := dm_E_gt T h1
  by_cases hu : un < B
  · obtain ⟨X, W1⟩ := dm_Wd_unit (bo' := vp_updL (dm_cp bo s (un + 1) 8) ((un + 1) * 8 + y) cv) (pF' := pF) (pS' := pS) (cT' := cT) (cB' := cB) W hu (fun k hk => by rw [dm_b1_lo hk, dm_cp_lo hk]) (fun _ _ => rfl) (fun _ _ => rfl) (fun _ _ => rfl) (fun _ _ => rfl)
    obtain ⟨X2, W3⟩ := dm_Wd_env W1 hy hc he (by omega)
    have X3 := dm_Ex_t X X2
    have St2 := dm_St_x (fN' := upd fN (j + 1) (nI (dm_ch kd i 1))) (fS' := upd (upd fS j 2) (j + 1) 0) (fE' := upd fE (j + 1) (nI ep)) (fV' := upd fV (j + 1) (-1)) X3 j w a p (fun q hq => ⟨pk_un (by omega), by rw [pk_un (by omega), pk_un (by omega)], pk_un (by omega), pk_un (by omega)⟩) (fun _ _ => ⟨rfl, rfl, rfl, rfl⟩) St
    refine dm_H_s (fun post m h => x_lF (by omega) (x_r_let hn h0 (C.2.1 _ h0) (by omega) qW qB qK ey hy hs hu b2 (x_7E h))) ?_
    refine hE _ _ (p + 1) (ep + 1) W3 (dm_St_T St2 hi (by rw [pk_un (by omega), qN]) (Or.inr (Or.inl ⟨qK, by rw [pk_un (by omega), pk_us]⟩)) hpos) h1 pk_us pk_us (by rw [pk_us, dm_eIs]) (Nat.le_refl _) (Nat.le_refl _) ?_ (by omega) (by omega) (by omega) (by omega) (by omega) (by omega)
    refine dm_EO_b (y := y) (c0 := c) (Le := L e) (bs := fun x => bo (s * 8 + x)) ?_ hc (fun x hx => dm_Ls_n) (fun x hx => ?_)
    · refine dm_EO_w EO (fun x hx hw => ?_)
      exact (C.2.2.1 i hi x (by omega)).mpr (Or.inr ⟨1, by omega, hw.1, dm_nb1 ey hx hy hw.2⟩)
    · rw [dm_b1_in, dm_cp_in hx, qv]
  · have eu : un = B := by omega
    subst eu
    refine dm_H_e (by omega) ?_ (fun post m h => x_lF (by omega) (x_r_let12 (by omega) qW (by omega) qK (x_7e (by decide) h)))
    exact ⟨n, q, _, rfl, rfl, rfl, rfl, rfl, rfl, ha2, by omega, ha3, fun _ => rfl, fun g => absurd g (by decide), b1, b2, d1, d2, P, Or.inr ⟨rfl, rfl, C, dm_R10⟩⟩
theorem sF_one (X0 : dm_Fx kd na nb se fn tg tn n B D) (W : dm_Wd kd na nb fn n B hp ep un m L bo vK vA vB pF pS cT cB eN eV eX) (hi : i < n) (qN : fN j = nI i) (hc : c < hp) (qv : cv = m c) (ha1 : a ≤ q) (ha2 : q ≤ un) (ha3 : q ≤ D) (hpot : (p + 7 + 8 * (dm_E kd i - dm_E kd (i + 1))) + 256 * (B - un) + 5 * hp < K + 1) (gx : gX + (K + 1) ≤ 16700) (St : dm_St kd fn n hp ep un m L bo fN fS fE fV wN wF wB wV j w a p) (qS : fS j = 1) (qW : wN w = nI i) (qF : wF w = 0) (qE : fE j = dm_eI e) (qB : wB w = nI s) (he : e ≤ ep) (hs : s ≤ un) (EO : dm_EO hp m (L e) (fun x => bo (s * 8 + x)) (fun x => bt (fn i) x = true)) (hpos : j ≤ 32 * a + i) (kS : dm_kS (kd i)) (hE : dm_SE kd na nb se fn tg tn n B D K) : dm_H B D (K + 1) gX (dm_en (w + 1)) (nI B, nI D, nI n, nI (dm_O kd n), 1, nI (dm_cnt kd n), 0, nI un, nI a, nI q, 0, nI (w + 1), 0, cn, cb, cv, kd, na, nb, se, fn, tg, tn, pF, pS, cT, cB, bo, wN, wF, wB, wV) := by
  obtain ⟨P, C, b1, b2, d1, d2⟩ := X0
  have T : dm_Tr kd n := ⟨P.2.1, C.1⟩
  have hn := P.1
  have hE1 := dm_E_gt T hi
  have hE2 := dm_E_le T hi
  have hwj := dm_St_le _ _ _ _ St
  have hep := W.2.2.1
  have hun := W.2.2.2
  have hh : hp < 4096 := by omega
  have hj : j < 300 := by omega
  have hc4 : c < 4096 := by omega
  have hk := dm_HC_k (W.1 c hc)
  rw [← qv] at hk
  have ar2 := dm_kS_ar kS
  have h0 := dm_ch_lt T hi (c := 0) (by omega)
  rw [dm_ch0] at h0
  have h1 := dm_ch_lt T hi (c := 1) (by omega)
  have h1g := dm_ch_gt T hi (c := 1) (by omega)
  have h1E := dm_ch_in T hi (c := 1) (by omega)
  have h1m := dm_ch_mono T hi 1 0 (by omega) (by omega)
  rw [dm_ch0] at h1m
  have h1gt := dm_E_gt T h1
  have St2 := dm_St_x (fN' := upd fN (j + 1) (nI (dm_ch kd i 1))) (fS' := upd (upd fS j 2) (j + 1) 0) (fE' := upd fE (j + 1) (dm_eI e)) (fV' := upd (upd fV j (nI c)) (j + 1) (-1)) (wN' := wN) (wF' := upd wF w 1) (wB' := wB) (wV' := vp_updL wV w cv) (dm_Ex_r (hp := hp) (ep := ep) (un := un) (m := m) (bo := bo) (L := L)) j w a p (fun q hq => ⟨pk_un (by omega), by rw [pk_un (by omega), pk_un (by omega)], pk_un (by omega), by rw [pk_un (by omega), pk_un (by omega)]⟩) (fun q hq => ⟨rfl, pk_un (by omega), rfl, pk_uLn (by omega)⟩) St
  refine dm_H_s (fun post m h => x_lF (by omega) (x_r_one hn h0 (C.2.1 _ h0) (by omega) qW qF kS (x_7E h))) ?_
  rw [qB]
  refine hE m L (p + 6) e W (dm_St_S St2 hi (by rw [pk_un (by omega), qN]) (by rw [pk_un (by omega), pk_us]) kS qW pk_us hc (by rw [pk_un (by omega), pk_us]) (by rw [pk_uLs, qv]) hpos) h1 pk_us pk_us pk_us he hs ?_ (by omega) (by omega) (by omega) (by omega) (by omega) (by omega)
  obtain ⟨n1, n2, n13, n15, n9, n11, n12, n14⟩ := dm_kS_n kS
  refine dm_EO_w EO (fun x hx hw => (C.2.2.1 i hi x (by omega)).mpr (Or.inr ⟨1, by omega, hw, ?_⟩))
  rintro (⟨g, _⟩ | ⟨g, _⟩ | ⟨g, _⟩)
  · exact n13 g
  · exact n14 g
  · exact n15 g
theorem sF_pair (X0 : dm_Fx kd na nb se fn tg tn n B D) (W : dm_Wd kd na nb fn n B hp ep un m L bo vK vA vB pF pS cT cB eN eV eX) (hi : i < n) (qN : fN j = nI i) (hc : c < hp) (qv : cv = m c) (ha1 : a ≤ q) (ha2 : q ≤ un) (ha3 : q ≤ D) (hpot : (p + 6) + 256 * (B - un) + 5 * hp < K + 1) (gx : gX + (K + 1) ≤ 16700) (St : dm_St kd fn n hp ep un m L bo fN fS fE fV wN wF wB wV j w a p) (qS : fS j = 2) (qW : wN w = nI i) (qF : wF w = 1) (hd : d < hp) (qV : fV j = nI d) (qX : wV w = m d) (hpos : j ≤ 32 * a + i) (qK : kd i = 10) (hF : dm_SF kd na nb se fn tg tn n B D K) : dm_H B D (K + 1) gX (dm_en (w + 1)) (nI B, nI D, nI n, nI (dm_O kd n), 1, nI (dm_cnt kd n), 0, nI un, nI a, nI q, 0, nI (w + 1), 0, cn, cb, cv, kd, na, nb, se, fn, tg, tn, pF, pS, cT, cB, bo, wN, wF, wB, wV) := by
  obtain ⟨P, C, b1, b2, d1, d2⟩ := X0
  have T : dm_Tr kd n := ⟨P.2.1, C.1⟩
  have hn := P.1
  have hE1 := dm_E_gt T hi
  have hE2 := dm_E_le T hi
  have hwj := dm_St_le _ _ _ _ St
  have hep := W.2.2.1
  have hun := W.2.2.2
  have hh : hp < 4096 := by omega
  have hj : j < 300 := by omega
  have hc4 : c < 4096 := by omega
  have hk := dm_HC_k (W.1 c hc)
  rw [← qv] at hk
  have hd4 : d < 4096 := by omega
  have hk2 := dm_HC_k (W.1 d hd)
  rw [← qX] at hk2
  by_cases hu : un < B
  · obtain ⟨X, W2⟩ := dm_Wd_pair W hu hd hc
    rw [← qX, ← qv] at W2
    have St2 := dm_St_x X j w a p (fun _ _ => ⟨rfl, rfl, rfl, rfl⟩) (fun _ _ => ⟨rfl, rfl, rfl, rfl⟩) St
    refine dm_H_s (fun post m h => x_lF (by omega) (x_r_pair (by omega) qW (by omega) qF qK hu b2 (x_7F (by omega) h))) ?_
    exact hF _ L p hp W2 St2 (by omega) pk_uLs.symm (by omega) (by omega) (by omega) (by omega) (by omega)
  · have eu : un = B := by omega
    subst eu
    refine dm_H_e (by omega) ?_ (fun post m h => x_lF (by omega) (x_r_pair12 (by omega) qW (by omega) qF qK (x_7e (by decide) h)))
    exact ⟨n, q, _, rfl, rfl, rfl, rfl, rfl, rfl, ha2, by omega, ha3, fun _ => rfl, fun g => absurd g (by decide), b1, b2, d1, d2, P, Or.inr ⟨rfl, rfl, C, dm_R10⟩⟩
theorem sF_bin (X0 : dm_Fx kd na nb se fn tg tn n B D) (W : dm_Wd kd na nb fn n B hp ep un m L bo vK vA vB pF pS cT cB eN eV eX) (hi : i < n) (qN : fN j = nI i) (hc : c < hp) (qv : cv = m c) (ha1 : a ≤ q) (ha2 : q ≤ un) (ha3 : q ≤ D) (hpot : (p + 6) + 256 * (B - un) + 5 * hp < K + 1) (gx : gX + (K + 1) ≤ 16700) (St : dm_St kd fn n hp ep un m L bo fN fS fE fV wN wF wB wV j w a p) (qS : fS j = 2) (qW : wN w = nI i) (qF : wF w = 1) (hd : d < hp) (qV : fV j = nI d) (qX : wV w = m d) (hpos : j ≤ 32 * a + i) (kB : dm_kB (kd i)) (hF : dm_SF kd na nb se fn tg tn n B D K) : dm_H B D (K + 1) gX (dm_en (w + 1)) (nI B, nI D, nI n, nI (dm_O kd n), 1, nI (dm_cnt kd n), 0, nI un, nI a, nI q, 0, nI (w + 1), 0, cn, cb, cv, kd, na, nb, se, fn, tg, tn, pF, pS, cT, cB, bo, wN, wF, wB, wV) := by
  obtain ⟨P, C, b1, b2, d1, d2⟩ := X0
  have T : dm_Tr kd n := ⟨P.2.1, C.1⟩
  have hn := P.1
  have hE1 := dm_E_gt T hi
  have hE2 := dm_E_le T hi
  have hwj := dm_St_le _ _ _ _ St
  have hep := W.2.2.1
  have hun := W.2.2.2
  have hh : hp < 4096 := by omega
  have hj : j < 300 := by omega
  have hc4 : c < 4096 := by omega
  have hk := dm_HC_k (W.1 c hc)
  rw [← qv] at hk
  have hd4 : d < 4096 := by omega
  have hk2 := dm_HC_k (W.1 d hd)
  rw [← qX] at hk2
  by_cases kd1 : vK d = 1
  · by_cases kc1 : vK c = 1
    · have e1 : (wV w).toInt32 = vA d := by
        rw [qX]
        exact dm_HC_i (W.1 d hd) kd1
      have e2 : cv.toInt32 = vA c := by
        rw [qv]
        exact dm_HC_i (W.1 c hc) kc1
      by_cases dz : kd i = 6 ∧ vA c = 0
      · refine dm_H_e (by omega) ?_ (fun post m h => x_lF (by omega) (x_r_bin (by omega) qW (by omega) qF kB (by rw [dz.1]; exact x_b11 (by rw [hk2, kd1]) (by rw [hk, kc1]) (by rw [e2]; exact dz.2) (x_7e (by decide) h))))
        exact ⟨n, q, _, rfl, rfl, rfl, rfl, rfl, rfl, ha2, by omega, ha3, fun g => absurd g (by decide), fun g => absurd g (by decide), b1, b2, d1, d2, P, Or.inr ⟨rfl, rfl, C, dm_R10⟩⟩
      · obtain ⟨X, W2⟩ := dm_Wd_int W (dm_bin (kd i) (vA d) (vA c)) 0
        have St2 := dm_St_x X j w a p (fun _ _ => ⟨rfl, rfl, rfl, rfl⟩) (fun _ _ => ⟨rfl, rfl, rfl, rfl⟩) St
        refine dm_H_s (fun post m h => x_lF (by omega) (x_r_bin (by omega) qW (by omega) qF kB (x_b (by rw [hk2, kd1]) (by rw [hk, kc1]) (by rw [e2]; exact dz) kB (x_7F (by omega) h)))) ?_
        rw [e1, e2]
        exact hF _ L p hp W2 St2 (by omega) pk_uLs.symm (by omega) (by omega) (by omega) (by omega) (by omega)
    · refine dm_H_e (by omega) ?_ (fun post m h => x_lF (by omega) (x_r_bin (by omega) qW (by omega) qF kB (x_b8b (by rw [hk2, kd1]) (by rw [hk]; exact kc1) (x_7e (by decide) h))))
      exact ⟨n, q, _, rfl, rfl, rfl, rfl, rfl, rfl, ha2, by omega, ha3, fun g => absurd g (by decide), fun g => absurd g (by decide), b1, b2, d1, d2, P, Or.inr ⟨rfl, rfl, C, dm_R10⟩⟩
  · refine dm_H_e (by omega) ?_ (fun post m h => x_lF (by omega) (x_r_bin (by omega) qW (by omega) qF kB (x_b8a (by rw [hk2]; exact kd1) (x_7e (by decide) h))))
    exact ⟨n, q, _, rfl, rfl, rfl, rfl, rfl, rfl, ha2, by omega, ha3, fun g => absurd g (by decide), fun g => absurd g (by decide), b1, b2, d1, d2, P, Or.inr ⟨rfl, rfl, C, dm_R10⟩⟩
theorem sF_app (X0 : dm_Fx kd na nb se fn tg tn n B D) (W : dm_Wd kd na nb fn n B hp ep un m L bo vK vA vB pF pS cT cB eN eV eX) (hi : i < n) (qN : fN j = nI i) (hc : c < hp) (qv : cv = m c) (ha1 : a ≤ q) (ha2 : q ≤ un) (ha3 : q ≤ D) (hpot : (p + 6) + 256 * (B - un) + 5 * hp < K + 1) (gx : gX + (K + 1) ≤ 16700) (St : dm_St kd fn n hp ep un m L bo fN fS fE fV wN wF wB wV j w a p) (qS : fS j = 2) (qW : wN w = nI i) (qF : wF w = 1) (hd : d < hp) (qV : fV j = nI d) (qX : wV w = m d) (hpos : j ≤ 32 * a + i) (qK : kd i = 16) (hE : dm_SE kd na nb se fn tg tn n B D K) : dm_H B D (K + 1) gX (dm_en (w + 1)) (nI B, nI D, nI n, nI (dm_O kd n), 1, nI (dm_cnt kd n), 0, nI un, nI a, nI q, 0, nI (w + 1), 0, cn, cb, cv, kd, na, nb, se, fn, tg, tn, pF, pS, cT, cB, bo, wN, wF, wB, wV) := by
  obtain ⟨P, C, b1, b2, d1, d2⟩ := X0
  have T : dm_Tr kd n := ⟨P.2.1, C.1⟩
  have hn := P.1
  have hE1 := dm_E_gt T hi
  have hE2 := dm_E_le T hi
  have hwj := dm_St_le _ _ _ _ St
  have hep := W.2.2.1
  have hun := W.2.2.2
  have hh : hp < 4096 := by omega
  have hj : j < 300 := by omega
  have hc4 : c < 4096 := by omega
  have hk := dm_HC_k (W.1 c hc)
  rw [← qv] at hk
  have hd4 : d < 4096 := by omega
  have hk2 := dm_HC_k (W.1 d hd)
  rw [← qX] at hk2
  by_cases k3 : vK d = 3
  · by_cases hu : un < B
    · by_cases hd3 : a < D
      · obtain ⟨q2, eq, r1, r2, r3, r4⟩ := dm_pkN ha1 ha2 ha3 hd3 d2
        obtain ⟨p1, l, e, s, t1, t2, hl, kl, he, hs, t3, t4, t5, t6, t7, EO⟩ := dm_HC_f (W.1 d hd) k3
        have ed : (wV w).toInt32 = nI p1 := by
          rw [qX]
          exact t3
        obtain ⟨y, hy, ey⟩ := (P.2.2 l hl).2.1 (by rcases kl with g | g <;> simp [g])
        have arl : 0 < dm_ar (kd l) := by
          rcases kl with g | g <;> rw [g] <;> decide
        have hl1 := dm_ch_lt T hl (c := 0) arl
        rw [dm_ch0] at hl1
        have hlE := dm_E_le T hl1
        have hlg := dm_E_gt T hl1
        have hcl := dm_cnt_le kd l
        have qL := (C.2.2.2.2 l hl kl).2
        by_cases k15 : kd l = 15
        · obtain ⟨z, hz, ez⟩ := (P.2.2 l hl).2.2 k15
          obtain ⟨X, W1⟩ := dm_Wd_unit (bo' := vp_updL (vp_updL (dm_cp bo s (un + 1) 8) ((un + 1) * 8 + y) (wV w)) ((un + 1) * 8 + z) cv) (pF' := pF) (pS' := pS) (cT' := cT) (cB' := cB) W hu (fun k hk => by rw [dm_b1_lo hk, dm_b1_lo hk, dm_cp_lo hk]) (fun _ _ => rfl) (fun _ _ => rfl) (fun _ _ => rfl) (fun _ _ => rfl)
          obtain ⟨X2, W2⟩ := dm_Wd_env W1 hy hd he (by omega)
          obtain ⟨X4, W3⟩ := dm_Wd_env (q := ep + 1) W2 hz hc (Nat.le_refl _) (by omega)
          have X3 := dm_Ex_t (dm_Ex_t X X2) X4
          rw [dm_eIs] at W3
          have St2 := dm_St_x (fN' := upd fN (j + 1) (nI (l + 1))) (fS' := upd (upd fS j 3) (j + 1) 0) (fE' := upd fE (j + 1) (nI (ep + 1))) (fV' := upd fV (j + 1) (-1)) (wN' := wN) (wF' := upd wF w 2) (wB' := wB) (wV' := wV) X3 j w a p (fun q hq => ⟨pk_un (by omega), by rw [pk_un (by omega), pk_un (by omega)], pk_un (by omega), pk_un (by omega)⟩) (fun q hq => ⟨rfl, pk_un (by omega), rfl, rfl⟩) St
          refine dm_H_s (fun post m h => x_lF (by omega) (x_r_app (by omega) qW (by omega) qF qK (x_a0 (by rw [hk2, k3]) ed (by omega) hu b2 hd3 d2 t6 (by omega) qL (by omega) t7 hs ey hy (fun _ => ez) hz (fun g => absurd k15 g) (fun _ => x_7E h)))) ?_
          rw [eq]
          refine hE _ _ (p + 1) (ep + 1 + 1) W3 (dm_St_B St2 hi (by rw [pk_un (by omega), qN]) qK (by rw [pk_un (by omega), pk_us]) qW pk_us hpos) hl1 pk_us pk_us (by rw [pk_us, dm_eIs]) (Nat.le_refl _) (Nat.le_refl _) ?_ (by omega) (by omega) (by omega) (by omega) (by omega) (by omega)
          refine dm_EO_b (y := z) (c0 := c) (Le := fun x => if x = y then d + 1 else L e x) (bs := fun x => if x = y then m d else bo (s * 8 + x)) ?_ hc (fun x hx => ?_) (fun x hx => ?_)
          · refine dm_EO_b (y := y) (c0 := d) (Le := L e) (bs := fun x => bo (s * 8 + x)) ?_ hd (fun x hx => rfl) (fun x hx => rfl)
            exact dm_EO_w EO (fun x hx hw => ⟨hw.1.1, dm_nbr k15 ey ez hx hy hz hw.2 hw.1.2⟩)
          · rw [dm_Ls_n, dm_Ls_n]
          · rw [dm_b1_in, dm_b1_in, dm_cp_in hx, qv, qX]
        · obtain ⟨X, W1⟩ := dm_Wd_unit (bo' := vp_updL (dm_cp bo s (un + 1) 8) ((un + 1) * 8 + y) cv) (pF' := pF) (pS' := pS) (cT' := cT) (cB' := cB) W hu (fun k hk => by rw [dm_b1_lo hk, dm_cp_lo hk]) (fun _ _ => rfl) (fun _ _ => rfl) (fun _ _ => rfl) (fun _ _ => rfl)
          obtain ⟨X2, W3⟩ := dm_Wd_env W1 hy hc he (by omega)
          have X3 := dm_Ex_t X X2
          have St2 := dm_St_x (fN' := upd fN (j + 1) (nI (l + 1))) (fS' := upd (upd fS j 3) (j + 1) 0) (fE' := upd fE (j + 1) (nI ep)) (fV' := upd fV (j + 1) (-1)) (wN' := wN) (wF' := upd wF w 2) (wB' := wB) (wV' := wV) X3 j w a p (fun q hq => ⟨pk_un (by omega), by rw [pk_un (by omega), pk_un (by omega)], pk_un (by omega), pk_un (by omega)⟩) (fun q hq => ⟨rfl, pk_un (by omega), rfl, rfl⟩) St
          refine dm_H_s (fun post m h => x_lF (by omega) (x_r_app (by omega) qW (by omega) qF qK (x_a0 (z := 0) (by rw [hk2, k3]) ed (by omega) hu b2 hd3 d2 t6 (by omega) qL (by omega) t7 hs ey hy (fun g => absurd g k15) (by omega) (fun _ => x_7E h) (fun g => absurd g k15)))) ?_
          rw [eq]
          refine hE _ _ (p + 1) (ep + 1) W3 (dm_St_B St2 hi (by rw [pk_un (by omega), qN]) qK (by rw [pk_un (by omega), pk_us]) qW pk_us hpos) hl1 pk_us pk_us (by rw [pk_us, dm_eIs]) (Nat.le_refl _) (Nat.le_refl _) ?_ (by omega) (by omega) (by omega) (by omega) (by omega) (by omega)
          refine dm_EO_b (y := y) (c0 := c) (Le := L e) (bs := fun x => bo (s * 8 + x)) ?_ hc (fun x hx => dm_Ls_n) (fun x hx => ?_)
          · exact dm_EO_w EO (fun x hx hw => ⟨hw.1, dm_nbf k15 ey hx hy hw.2⟩)
          · rw [dm_b1_in, dm_cp_in hx, qv]
      · have ea : a = D := by omega
        have eq : q = D := by omega
        subst ea
        refine dm_H_e (by omega) ?_ (fun post m h => x_lF (by omega) (x_r_app (by omega) qW (by omega) qF qK (x_a13 (by rw [hk2, k3]) hu b2 (x_7e (by decide) h))))
        exact ⟨n, q, _, rfl, rfl, rfl, rfl, rfl, rfl, ha2, by omega, ha3, fun g => absurd g (by decide), fun _ => by omega, b1, b2, d1, d2, P, Or.inr ⟨rfl, rfl, C, dm_R10⟩⟩
    · have eu : un = B := by omega
      subst eu
      refine dm_H_e (by omega) ?_ (fun post m h => x_lF (by omega) (x_r_app (by omega) qW (by omega) qF qK (x_a12 (by rw [hk2, k3]) (x_7e (by decide) h))))
      exact ⟨n, q, _, rfl, rfl, rfl, rfl, rfl, rfl, ha2, by omega, ha3, fun _ => rfl, fun g => absurd g (by decide), b1, b2, d1, d2, P, Or.inr ⟨rfl, rfl, C, dm_R10⟩⟩
  · refine dm_H_e (by omega) ?_ (fun post m h => x_lF (by omega) (x_r_app (by omega) qW (by omega) qF qK (x_a9 (by rw [hk2]; exact k3) (x_7e (by decide) h))))
    exact ⟨n, q, _, rfl, rfl, rfl, rfl, rfl, rfl, ha2, by omega, ha3, fun g => absurd g (by decide), fun g => absurd g (by decide), b1, b2, d1, d2, P, Or.inr ⟨rfl, rfl, C, dm_R10⟩⟩
end
end
section
/-! run -/
section
variable {kd na nb se fn tg tn : Nat → Int32} {n B D : Nat}
theorem sE_all {K : Nat} (X0 : dm_Fx kd na nb se fn tg tn n B D) (hE : dm_SE kd na nb se fn tg tn n B D K) (hF : dm_SF kd na nb se fn tg tn n B D K) : dm_SE kd na nb se fn tg tn n B D (K + 1) := by
  intro m L p e oc cv pF pS cT cB bo wN wF wB wV vK vA vB eN eV eX fN fS fE fV hp ep un a w j gX q i s W St hi qN qS qE he hs EO hpos ha1 ha2 ha3 hpot gx
  obtain ⟨q, q1, q2, ek⟩ := dm_Pgk X0.1 hi
  by_cases k1 : kd i = 1
  · exact sE_num X0 W St hi qN qS qE he hs EO hpos ha1 ha2 ha3 hpot gx hF k1
  by_cases k2 : kd i = 2
  · exact sE_var X0 W St hi qN qS qE he hs EO hpos ha1 ha2 ha3 hpot gx hF k2
  by_cases k13 : kd i = 13
  · exact sE_fun X0 W St hi qN qS qE he hs EO hpos ha1 ha2 ha3 hpot gx hF k13
  by_cases k15 : kd i = 15
  · exact sE_rec X0 W St hi qN qS qE he hs EO hpos ha1 ha2 ha3 hpot gx hE k15
  refine sE_oth X0 W St hi qN qS qE he hs EO hpos ha1 ha2 ha3 hpot gx hE ?_
  rw [ek] at k1 k2 k13 k15 ⊢
  rcases (show q = 1 ∨ q = 2 ∨ q = 3 ∨ q = 4 ∨ q = 5 ∨ q = 6 ∨ q = 7 ∨ q = 8 ∨ q = 9 ∨ q = 10 ∨ q = 11 ∨ q = 12 ∨ q = 13 ∨ q = 14 ∨ q = 15 ∨ q = 16 by omega) with rfl | rfl | rfl | rfl | rfl | rfl | rfl | rfl | rfl | rfl | rfl | rfl | rfl | rfl | rfl | rfl
  · exact absurd rfl k1
  · exact absurd rfl k2
  · exact Or.inl rfl
  · exact Or.inr (Or.inl rfl)
  · exact Or.inr (Or.inr (Or.inl rfl))
  · exact Or.inr (Or.inr (Or.inr (Or.inl rfl)))
  · exact Or.inr (Or.inr (Or.inr (Or.inr (Or.inl rfl))))
  · exact Or.inr (Or.inr (Or.inr (Or.inr (Or.inr (Or.inl rfl)))))
  · exact Or.inr (Or.inr (Or.inr (Or.inr (Or.inr (Or.inr (Or.inl rfl))))))
  · exact Or.inr (Or.inr (Or.inr (Or.inr (Or.inr (Or.inr (Or.inr (Or.inl rfl)))))))
  · exact Or.inr (Or.inr (Or.inr (Or.inr (Or.inr (Or.inr (Or.inr (Or.inr (Or.inl rfl))))))))
  · exact Or.inr (Or.inr (Or.inr (Or.inr (Or.inr (Or.inr (Or.inr (Or.inr (Or.inr (Or.inl rfl)))))))))
  · exact absurd rfl k13
  · exact Or.inr (Or.inr (Or.inr (Or.inr (Or.inr (Or.inr (Or.inr (Or.inr (Or.inr (Or.inr (Or.inl rfl))))))))))
  · exact absurd rfl k15
  · exact Or.inr (Or.inr (Or.inr (Or.inr (Or.inr (Or.inr (Or.inr (Or.inr (Or.inr (Or.inr (Or.inr (rfl)))))))))))
theorem sF_all {K : Nat} (X0 : dm_Fx kd na nb se fn tg tn n B D) (hE : dm_SE kd na nb se fn tg tn n B D K) (hF : dm_SF kd na nb se fn tg tn n B D K) : dm_SF kd na nb se fn tg tn n B D (K + 1) := by
  intro m L p c cn cb cv pF pS cT cB bo wN wF wB wV vK vA vB eN eV eX fN fS fE fV hp ep un a w j gX q W St hc qv ha1 ha2 ha3 hpot gx
  cases j with
  | zero =>
    obtain ⟨rfl, rfl, rfl⟩ := St
    obtain ⟨P, C, b1, b2, d1, d2⟩ := X0
    have hun := W.2.2.2
    refine ⟨0, (nI B, nI D, nI n, nI (dm_O kd n), 1, nI (dm_cnt kd n), 0, nI un, nI 0, nI q, cv, nI 0, 0, cn, cb, cv, kd, na, nb, se, fn, tg, tn, pF, pS, cT, cB, bo, wN, wF, wB, wV), ?_, fun post h r hr => ?_⟩
    · exact ⟨n, q, un, rfl, rfl, rfl, rfl, rfl, rfl, ha2, hun, ha3, fun g => absurd g (by decide), fun g => absurd g (by decide), b1, b2, d1, d2, P, Or.inr ⟨rfl, rfl, C, Or.inr ⟨hp, m, vK, vA, vB, c, hc, qv, fun c hc => dm_HC_R (by omega) (W.1 c hc)⟩⟩⟩
    · obtain ⟨r, rfl⟩ : ∃ t, r = t + 1 := ⟨r - 1, by omega⟩
      exact x_end h
  | succ j =>
    obtain ⟨i, hi, qN, St⟩ := St
    rcases St with ⟨p', h1, h2, rfl, h4⟩ | ⟨w', a', p', rfl, rfl, rfl, h4, h5, h6, h7, h8, h9⟩ | ⟨w', p', e, s, rfl, rfl, h3, h4, h5, h6, h7, h8, h9, h10, h11, h12, h13⟩ | ⟨w', p', d, rfl, rfl, h3, h4, h5, h6, h7, h8, h9, h10, h11⟩
    · exact sF_T X0 W hi qN hc qv ha1 ha2 ha3 hpot gx h4 h1 h2 hF
    · exact sF_B X0 W hi qN hc qv ha1 ha2 ha3 hpot gx h9 h4 h5 h6 h7 h8 hF
    · rcases h4 with k | k | k | k | k | k | k | k | k | k | k | k
      · exact sF_one X0 W hi qN hc qv ha1 ha2 ha3 hpot gx h13 h3 h5 h6 h7 h8 h9 h10 h11 h12 (Or.inl k) hE
      · exact sF_one X0 W hi qN hc qv ha1 ha2 ha3 hpot gx h13 h3 h5 h6 h7 h8 h9 h10 h11 h12 (Or.inr (Or.inl k)) hE
      · exact sF_one X0 W hi qN hc qv ha1 ha2 ha3 hpot gx h13 h3 h5 h6 h7 h8 h9 h10 h11 h12 (Or.inr (Or.inr (Or.inl k))) hE
      · exact sF_one X0 W hi qN hc qv ha1 ha2 ha3 hpot gx h13 h3 h5 h6 h7 h8 h9 h10 h11 h12 (Or.inr (Or.inr (Or.inr (Or.inl k)))) hE
      · exact sF_one X0 W hi qN hc qv ha1 ha2 ha3 hpot gx h13 h3 h5 h6 h7 h8 h9 h10 h11 h12 (Or.inr (Or.inr (Or.inr (Or.inr (Or.inl k))))) hE
      · exact sF_one X0 W hi qN hc qv ha1 ha2 ha3 hpot gx h13 h3 h5 h6 h7 h8 h9 h10 h11 h12 (Or.inr (Or.inr (Or.inr (Or.inr (Or.inr (Or.inl k)))))) hE
      · exact sF_if X0 W hi qN hc qv ha1 ha2 ha3 hpot gx h13 h3 h5 h6 h7 h8 h9 h10 h11 h12 k hE
      · exact sF_one X0 W hi qN hc qv ha1 ha2 ha3 hpot gx h13 h3 h5 h6 h7 h8 h9 h10 h11 h12 (Or.inr (Or.inr (Or.inr (Or.inr (Or.inr (Or.inr (Or.inl k))))))) hE
      · exact sF_fst X0 W hi qN hc qv ha1 ha2 ha3 hpot gx h13 h3 h5 h6 h7 h8 h9 h10 h11 h12 k hF
      · exact sF_snd X0 W hi qN hc qv ha1 ha2 ha3 hpot gx h13 h3 h5 h6 h7 h8 h9 h10 h11 h12 k hF
      · exact sF_let X0 W hi qN hc qv ha1 ha2 ha3 hpot gx h13 h3 h5 h6 h7 h8 h9 h10 h11 h12 k hE
      · exact sF_one X0 W hi qN hc qv ha1 ha2 ha3 hpot gx h13 h3 h5 h6 h7 h8 h9 h10 h11 h12 (Or.inr (Or.inr (Or.inr (Or.inr (Or.inr (Or.inr (Or.inr (k)))))))) hE
    · rcases h4 with k | k | k | k | k | k | k | k
      · exact sF_bin X0 W hi qN hc qv ha1 ha2 ha3 hpot gx h11 h3 h5 h6 h7 h8 h9 h10 (Or.inl k) hF
      · exact sF_bin X0 W hi qN hc qv ha1 ha2 ha3 hpot gx h11 h3 h5 h6 h7 h8 h9 h10 (Or.inr (Or.inl k)) hF
      · exact sF_bin X0 W hi qN hc qv ha1 ha2 ha3 hpot gx h11 h3 h5 h6 h7 h8 h9 h10 (Or.inr (Or.inr (Or.inl k))) hF
      · exact sF_bin X0 W hi qN hc qv ha1 ha2 ha3 hpot gx h11 h3 h5 h6 h7 h8 h9 h10 (Or.inr (Or.inr (Or.inr (Or.inl k)))) hF
      · exact sF_bin X0 W hi qN hc qv ha1 ha2 ha3 hpot gx h11 h3 h5 h6 h7 h8 h9 h10 (Or.inr (Or.inr (Or.inr (Or.inr (Or.inl k))))) hF
      · exact sF_bin X0 W hi qN hc qv ha1 ha2 ha3 hpot gx h11 h3 h5 h6 h7 h8 h9 h10 (Or.inr (Or.inr (Or.inr (Or.inr (Or.inr (k)))))) hF
      · exact sF_pair X0 W hi qN hc qv ha1 ha2 ha3 hpot gx h11 h3 h5 h6 h7 h8 h9 h10 k hF
      · exact sF_app X0 W hi qN hc qv ha1 ha2 ha3 hpot gx h11 h3 h5 h6 h7 h8 h9 h10 k hE
theorem sim_all (X0 : dm_Fx kd na nb se fn tg tn n B D) : ∀ K, dm_SE kd na nb se fn tg tn n B D K ∧ dm_SF kd na nb se fn tg tn n B D K := by
  intro K
  induction K with
  | zero =>
    refine ⟨?_, ?_⟩
    · intro m L p e oc cv pF pS cT cB bo wN wF wB wV vK vA vB eN eV eX fN fS fE fV hp ep un a w j gX q i s W St hi qN qS qE he hs EO hpos ha1 ha2 ha3 hpot
      omega
    · intro m L p c cn cb cv pF pS cT cB bo wN wF wB wV vK vA vB eN eV eX fN fS fE fV hp ep un a w j gX q W St hc qv ha1 ha2 ha3 hpot
      omega
  | succ K ih => exact ⟨sE_all X0 ih.1 ih.2, sF_all X0 ih.1 ih.2⟩
end
end
section
/-! the result's walk -/
theorem dm_RC_k {kd : Nat → Int32} {n c : Nat} {m : Nat → Int64} {vK vA vB : Nat → Int32} {pF pS : Nat → Int64} {cT : Nat → Int32} (h : dm_RC kd n m vK vA vB pF pS cT c) : dm_kof (m c) = vK c := by
  rcases h with ⟨h1, h2⟩ | ⟨h1, p, a, b, h2, h3, h4, h5, h6⟩ | ⟨h1, p, l, h2, h3, h3', h4, h5, h6⟩
  · rw [h1, h2, dm_val_k]
  · rw [h1, h5, dm_val_k]
  · rw [h1, h4, dm_val_k]
section
variable {xB xD xn xo xc xl oc xu xa pk xw en cn cb : Int32} {xr cv : Int64} {kd na nb se fn tg tn cT cB wN wF wB : Nat → Int32} {pF pS bo wV : Nat → Int64} {n hp : Nat} {m : Nat → Int64} {vK vA vB : Nat → Int32}
theorem x_w0 {post : Int64 → Prop} {x2 : Int32} {t q f : Nat} (ht : t ≤ 16) (hq : q ≤ t) (h : post 0) : wX_walkResult_20 post (nI t) x2 xB xD xn xo xc xl oc xu xa pk xr xw en cn cb cv kd na nb se fn tg tn pF pS cT cB bo wN wF wB wV (f + 1) 0 (nI q) := by
  by_cases e : t ≤ q
  · exact br_t (nI_le e (by omega)) h
  · exact br_f (nI_ge (by omega) (by omega)) (br_f (by decide) h)
theorem x_wlk {x2 : Int32} {t : Nat} (ht : t ≤ 16) (R : ∀ c, c < hp → dm_RC kd n m vK vA vB pF pS cT c) : ∀ d q c, q + d = t → c < hp → ∃ xv, (xv = 0 ∨ ∃ c, c < hp ∧ xv = m c) ∧ (∀ post : Int64 → Prop, post xv → wX_walkResult_20 post (nI t) x2 xB xD xn xo xc xl oc xu xa pk xr xw en cn cb cv kd na nb se fn tg tn pF pS cT cB bo wN wF wB wV (d + 1) (m c) (nI q)) := by
  intro d
  induction d with
  | zero =>
    intro q c hq hc
    have e : q = t := by omega
    subst e
    exact ⟨m c, Or.inr ⟨c, hc, rfl⟩, fun post h => br_t (nI_le (Nat.le_refl _) (by omega)) h⟩
  | succ d ih =>
    intro q c hq hc
    have hk := dm_RC_k (R c hc)
    have hg : ¬ nI t ≤ nI q := nI_ge (by omega) (by omega)
    by_cases k2 : vK c = 2
    · rcases R c hc with ⟨h1, _⟩ | ⟨h1, p, a, b, h2, h3, h4, h5, h6, h7, h8, h9⟩ | ⟨h1, _⟩
      · rw [k2] at h1
        exact absurd h1 (by decide)
      · have ed : (m c).toInt32 = nI p := by
          rw [h5, dm_val_d]
        have ep1 : ∀ g : Nat → Int64, g (m c).toInt32.toNatClampNeg = g p := by
          intro g
          rw [ed, nI_clamp (by omega)]
        have hin : vp_in (m c).toInt32 65 := by
          rw [ed]
          exact dm_w65 (by omega)
        obtain ⟨xa1, r1, r2⟩ := ih (q + 1) a (by omega) (by omega)
        obtain ⟨xb1, s1, s2⟩ := ih (q + 1) b (by omega) (by omega)
        by_cases z : ((x2.toUInt32 >>> ((nI q).toUInt32 &&& Int32.toUInt32 31)).toInt32 &&& 1) = 0
        · refine ⟨xa1, r1, fun post h => ?_⟩
          refine br_f hg (br_t (by rw [← k2]; exact hk) (br_t z ⟨hin, nm_r ?_ (nm_r (nI_1 q) (r2 post h))⟩))
          rw [ep1 pF, h8]
        · refine ⟨xb1, s1, fun post h => ?_⟩
          refine br_f hg (br_t (by rw [← k2]; exact hk) (br_f z ⟨hin, nm_r ?_ (nm_r (nI_1 q) (s2 post h))⟩))
          rw [ep1 pS, h9]
      · rw [k2] at h1
        exact absurd h1 (by decide)
    · exact ⟨0, Or.inl rfl, fun post h => br_f hg (br_f (fun g => k2 (hk.symm.trans g)) h)⟩
theorem x_walk {v1 v2 : Int32} (R : dm_R1 kd n xr pF pS cT) : ∃ xv : Int64, (dm_kof xv = 3 → ∃ p l, p ≤ 64 ∧ l < n ∧ (kd l = 13 ∨ kd l = 15) ∧ xv.toInt32 = nI p ∧ cT p = nI (dm_cnt kd l)) ∧ (∀ post : Int64 → Prop, post xv → wpX_walkResult post (xB, xD, xn, xo, xc, xl, oc, xu, xa, pk, xr, xw, en, cn, cb, cv, kd, na, nb, se, fn, tg, tn, pF, pS, cT, cB, bo, wN, wF, wB, wV) v1 v2) := by
  have z0 : dm_kof 0 = 3 → ∃ p l, p ≤ 64 ∧ l < n ∧ (kd l = 13 ∨ kd l = 15) ∧ (0 : Int64).toInt32 = nI p ∧ cT p = nI (dm_cnt kd l) := fun g => absurd g (by decide)
  by_cases g : v1 < 0
  · exact ⟨0, z0, fun post h => br_t g h⟩
  · obtain ⟨t, ht, rfl⟩ := nI_of g
    by_cases g2 : t ≤ 16
    · have g3 : nI t ≤ 16 := nI_le (b := 16) g2 (by omega)
      rcases R with rfl | ⟨hp, m, vK, vA, vB, c, hc, rfl, h3⟩
      · exact ⟨0, z0, fun post h => br_f g (br_t g3 ⟨0 + 1, x_w0 (q := 0) g2 (Nat.zero_le _) h⟩)⟩
      · obtain ⟨xv, r1, r2⟩ := x_wlk (x2 := v2) g2 h3 t 0 c (by omega) hc
        refine ⟨xv, fun hk => ?_, fun post h => br_f g (br_t g3 ⟨t + 1, r2 post h⟩)⟩
        rcases r1 with rfl | ⟨c', hc', rfl⟩
        · exact z0 hk
        · have hkk := dm_RC_k (h3 c' hc')
          rw [hk] at hkk
          rcases h3 c' hc' with ⟨t1, _⟩ | ⟨t1, _⟩ | ⟨t1, p, l, t2, t3, t3', t4, t5, t6⟩
          · rw [t1] at hkk
            exact absurd hkk (by decide)
          · rw [t1] at hkk
            exact absurd hkk (by decide)
          · exact ⟨p, l, t2, t3, t3', by rw [t4, dm_val_d], t6⟩
    · have g3 : ¬ nI t ≤ 16 := nI_ge (a := 16) (by omega) ht
      exact ⟨0, z0, fun post h => br_f g (br_f g3 h)⟩
theorem x_kv {v1 v2 : Int32} (R : dm_R1 kd n xr pF pS cT) : ∃ kk : Int32, (∀ post : Int32 → Prop, post kk → wpX_resultKind post (xB, xD, xn, xo, xc, xl, oc, xu, xa, pk, xr, xw, en, cn, cb, cv, kd, na, nb, se, fn, tg, tn, pF, pS, cT, cB, bo, wN, wF, wB, wV) v1 v2) ∧ (kk = 3 → ∃ t, t < dm_cnt kd n ∧ ∀ post : Int32 → Prop, post (nI t) → wpX_resultValue post (xB, xD, xn, xo, xc, xl, oc, xu, xa, pk, xr, xw, en, cn, cb, cv, kd, na, nb, se, fn, tg, tn, pF, pS, cT, cB, bo, wN, wF, wB, wV) v1 v2) := by
  obtain ⟨xv, h1, h2⟩ := x_walk (v1 := v1) (v2 := v2) R
  refine ⟨dm_kof xv, fun post h => ?_, fun e => ?_⟩
  · unfold wpX_resultKind
    exact h2 _ h
  · obtain ⟨p, l, t1, t2, t3, t4, t5⟩ := h1 e
    refine ⟨dm_cnt kd l, dm_cnt_lt t2 t3, fun post h => ?_⟩
    unfold wpX_resultValue
    refine h2 _ (br_f (fun g => absurd (e.symm.trans g) (by decide)) (br_t e ⟨?_, ?_⟩))
    · rw [t4]
      exact dm_w65 (by omega)
    · rw [t4, nI_clamp (by omega), t5]
      exact h
end
end
section
/-! the calls that change the object -/
theorem x_resetM {post : St2 → Prop} {u : St2} {B D : Nat} (R : dm_XR B D u) (h : ∀ u', dm_XR B D u' → post u') : wpX_reset post u := by
  obtain ⟨xB, xD, xn, xo, xc, xl, oc, xu, xa, pk, xr, xw, en, cn, cb, cv, kd, na, nb, se, fn, tg, tn, pF, pS, cT, cB, bo, wN, wF, wB, wV⟩ := u
  obtain ⟨n, q, t, rfl, rfl, rfl, rfl, rfl, rfl, h1, h2, h3, h4, h5, b1, b2, d1, d2, P, R⟩ := R
  exact h _ ⟨0, 0, 0, rfl, rfl, rfl, rfl, rfl, rfl, Nat.le_refl _, Nat.zero_le _, Nat.zero_le _, fun g => absurd g (by decide), fun g => absurd g (by decide), b1, b2, d1, d2, dm_Pg0 _ _ _, Or.inl ⟨rfl, rfl, rfl⟩⟩
theorem x_nodeM {post : Int32 → St2 → Prop} {u : St2} {B D : Nat} (R : dm_XR B D u) (h : ∀ r u', dm_XR B D u' → post r u') (v1 v2 v3 : Int32) : wpX_node post u v1 v2 v3 := by
  have J := R
  obtain ⟨xB, xD, xn, xo, xc, xl, oc, xu, xa, pk, xr, xw, en, cn, cb, cv, kd, na, nb, se, fn, tg, tn, pF, pS, cT, cB, bo, wN, wF, wB, wV⟩ := u
  obtain ⟨n, q, t, rfl, rfl, rfl, rfl, rfl, rfl, h1, h2, h3, h4, h5, b1, b2, d1, d2, P, R⟩ := R
  have hb := dm_O_b kd n
  have hn := P.1
  by_cases e : dm_O kd n = 0
  · exact br_t (by rw [e]; rfl) (h _ _ J)
  refine br_f (nI_ne0 (by omega) (by omega)) ?_
  by_cases hn2 : n < 32
  · refine br_t (nI_lt (b := 32) hn2 (by omega)) ?_
    by_cases k1 : v1 < 1
    · exact br_t k1 (h _ _ J)
    refine br_f k1 ?_
    by_cases k2 : v1 ≤ 16
    · refine br_t k2 ?_
      have hkk : dm_kk v1 := by
        have h0 : ¬ v1 < 0 := fun z => k1 (Int32.lt_trans z (by decide))
        obtain ⟨q, hq, rfl⟩ := nI_of h0
        exact ⟨q, Nat.le_of_not_lt (fun z => k1 (nI_lt (b := 1) z (by omega))), (nI_leI (b := 16) hq (by omega)).mp k2, rfl⟩
      refine x_bad (fun z => ?_) (fun z => ?_)
      · exact br_f (by decide) (h _ _ J)
      · refine br_t rfl ?_
        have hin : vp_in (nI n) 32 := vp_in_nI (by omega) (by omega)
        refine ⟨hin, ?_⟩
        rw [nI_clamp (by omega)]
        refine nm_e ⟨hin, nm_e ⟨hin, nm_e (nm_r (nI_1 n) (x_cc hkk (nm_r (dm_opn (by omega)) (h _ _ ?_))))⟩⟩
        have hc : xc = 0 ∧ xl = 0 ∧ xr = 0 := by
          rcases R with g | g
          · exact g
          · exact absurd g.2.2.1.1 e
        exact ⟨n + 1, q, t, rfl, rfl, rfl, by rw [dm_O_s], rfl, rfl, h1, h2, h3, h4, h5, b1, b2, d1, d2, dm_Pg_s P hn2 e hkk z, Or.inl hc⟩
    · exact br_f k2 (h _ _ J)
  · have e32 : n = 32 := by omega
    subst e32
    exact br_f (by decide) (h _ _ J)
theorem x_compM {post : Int32 → St2 → Prop} {u : St2} {B D : Nat} (R : dm_XR B D u) (h : ∀ r u', dm_XR B D u' → post r u') : wpX_compile post u := by
  have J := R
  obtain ⟨xB, xD, xn, xo, xc, xl, oc, xu, xa, pk, xr, xw, en, cn, cb, cv, kd, na, nb, se, fn, tg, tn, pF, pS, cT, cB, bo, wN, wF, wB, wV⟩ := u
  obtain ⟨n, q, t, rfl, rfl, rfl, rfl, rfl, rfl, h1, h2, h3, h4, h5, b1, b2, d1, d2, P, R⟩ := R
  have hb := dm_O_b kd n
  have hn := P.1
  rcases R with ⟨rfl, rfl, rfl⟩ | ⟨rfl, rfl, C, R⟩
  · refine br_t rfl ?_
    by_cases e : dm_O kd n = 0
    · have T : dm_Tr kd n := ⟨P.2.1, e⟩
      refine br_t (by rw [e]; rfl) (x_ana P T (fun se' fn' hse F => ?_))
      by_cases f0 : fn' 0 = 0
      · refine br_t f0 (x_tag P (fun tg' tn' ht => h _ _ ?_))
        exact ⟨n, q, t, rfl, rfl, rfl, rfl, rfl, rfl, h1, h2, h3, h4, h5, b1, b2, d1, d2, P, Or.inr ⟨rfl, rfl, ⟨e, hse, F, f0, ht⟩, dm_R10⟩⟩
      · refine br_f f0 (h _ _ ?_)
        exact ⟨n, q, t, rfl, rfl, rfl, rfl, rfl, rfl, h1, h2, h3, h4, h5, b1, b2, d1, d2, P, Or.inl ⟨rfl, rfl, rfl⟩⟩
    · exact br_f (nI_ne0 (by omega) (by omega)) (h _ _ J)
  · exact br_f (by decide) (h _ _ J)
theorem x_run {post : Int32 → St2 → Prop} {xB xD xn xo xl oc xu xa pk xw en cn cb : Int32} {xr cv : Int64} {kd na nb se fn tg tn cT cB wN wF wB : Nat → Int32} {pF pS bo wV : Nat → Int64} (h : ∃ m, dm_LX post m 0 0 (xB, xD, xn, xo, 1, xl, oc, 0, 0, 0, 0, 0, 1, 0, 0, cv, kd, na, nb, se, fn, tg, tn, pF, pS, cT, cB, bo, wN, wF, wB, wV)) : wpX_run post (xB, xD, xn, xo, 1, xl, oc, xu, xa, pk, xr, xw, en, cn, cb, cv, kd, na, nb, se, fn, tg, tn, pF, pS, cT, cB, bo, wN, wF, wB, wV) := by
  unfold wpX_run
  refine br_f (by decide) ?_
  unfold wpX_startRun
  exact h
theorem x_runM {post : Int32 → St2 → Prop} {u : St2} {B D : Nat} (R : dm_XR B D u) (h : ∀ r u', dm_XR B D u' → post r u') : wpX_run post u := by
  have J := R
  obtain ⟨xB, xD, xn, xo, xc, xl, oc, xu, xa, pk, xr, xw, en, cn, cb, cv, kd, na, nb, se, fn, tg, tn, pF, pS, cT, cB, bo, wN, wF, wB, wV⟩ := u
  obtain ⟨n, q, t, rfl, rfl, rfl, rfl, rfl, rfl, h1, h2, h3, h4, h5, b1, b2, d1, d2, P, R⟩ := R
  rcases R with ⟨rfl, rfl, rfl⟩ | ⟨rfl, rfl, C, R⟩
  · exact br_t rfl (h _ _ J)
  · have T : dm_Tr kd n := ⟨P.2.1, C.1⟩
    have hn := P.1
    have hpos := dm_Tr_pos T
    have hE0 := dm_E_0 T
    have X0 : dm_Fx kd na nb se fn tg tn n B D := ⟨P, C, b1, b2, d1, d2⟩
    have W : dm_Wd kd na nb fn n B 0 0 0 (fun _ => 0) (fun _ _ => 0) bo (fun _ => 0) (fun _ => 0) (fun _ => 0) pF pS cT cB (fun _ => 0) (fun _ => 0) (fun _ => 0) := ⟨fun c hc => absurd hc (Nat.not_lt_zero c), ⟨fun _ => rfl, fun j hj => absurd hj (Nat.not_lt_zero j)⟩, Nat.zero_le _, Nat.zero_le _⟩
    have EO : dm_EO 0 (fun _ => (0 : Int64)) ((fun _ _ => 0 : Nat → Nat → Nat) 0) (fun x => bo (0 * 8 + x)) (fun x => bt (fn 0) x = true) := by
      intro x hx hw
      rw [C.2.2.2.1, b_0] at hw
      exact absurd hw (by decide)
    have St : dm_St kd fn n 0 0 0 (fun _ => 0) (fun _ _ => 0) bo (fun _ => 0) (fun _ => 0) (fun _ => -1) (fun _ => 0) wN wF wB wV 0 0 0 0 := ⟨rfl, rfl, rfl⟩
    have G : dm_H B D 16641 0 0 (nI B, nI D, nI n, nI (dm_O kd n), 1, nI (dm_cnt kd n), oc, nI 0, nI 0, nI 0, 0, nI 0, 1, nI 0, nI 0, cv, kd, na, nb, se, fn, tg, tn, pF, pS, cT, cB, bo, wN, wF, wB, wV) := by
      refine (sim_all X0 16641).1 (fun _ => 0) (fun _ _ => 0) 0 0 W St hpos rfl rfl dm_eI0.symm (Nat.le_refl _) (Nat.le_refl _) EO (by omega) (by omega) (by omega) (by omega) ?_ (by omega)
      rw [hE0]
      omega
    obtain ⟨oc2, u', R', hX⟩ := G
    exact x_run ⟨16641, hX _ (h _ _ R') 16641 (Nat.le_refl _)⟩
end
section
/-! the law's check -/
theorem dm_t1 : ∀ k, k < 7 → (¬ (5 : Int32) < nI k - 1) ∧ nI k - 1 + 1 = nI (k + 1) - 1 := by decide +kernel
section
variable {xB xD xn xo xc xl oc xu xa pk xw en cn cb : Int32} {xr cv : Int64} {kd na nb se fn tg tn cT cB wN wF wB : Nat → Int32} {pF pS bo wV : Nat → Int64} {N : Nat}
theorem l_ok88 {post : Int32 → Prop} {J : Int32 → Prop} {x7 : Int32} (hN : N < 1000) (K : ∀ v2, ∃ kk : Int32, (∀ post : Int32 → Prop, post kk → wpX_resultKind post (xB, xD, xn, xo, xc, xl, oc, xu, xa, pk, xr, xw, en, cn, cb, cv, kd, na, nb, se, fn, tg, tn, pF, pS, cT, cB, bo, wN, wF, wB, wV) x7 v2) ∧ (kk = 3 → ∃ t, t < N ∧ ∀ post : Int32 → Prop, post (nI t) → wpX_resultValue post (xB, xD, xn, xo, xc, xl, oc, xu, xa, pk, xr, xw, en, cn, cb, cv, kd, na, nb, se, fn, tg, tn, pF, pS, cT, cB, bo, wN, wF, wB, wV) x7 v2)) (hJ : J (x7 + 1)) : ∀ d k, k + d = 16 → wL_ok_88 post J (nI N) x7 xB xD xn xo xc xl oc xu xa pk xr xw en cn cb cv kd na nb se fn tg tn pF pS cT cB bo wN wF wB wV (d + 1) (nI k) := by
  intro d
  induction d with
  | zero =>
    intro k hk
    have e : k = 16 := by omega
    subst e
    exact br_t (nI_le (a := 16) (Nat.le_refl _) (by omega)) (nm_e hJ)
  | succ d ih =>
    intro k hk
    obtain ⟨kk, h1, h2⟩ := K (nI k)
    refine br_f (nI_ge (b := 16) (by omega) (by omega)) (h1 _ ?_)
    by_cases e : kk = 3
    · obtain ⟨t, ht, h3⟩ := h2 e
      exact br_t e (h3 _ (br_f (nI_pos (by omega)) (br_t (nI_lt ht (by omega)) (nm_r (nI_1 k) (ih (k + 1) (by omega))))))
    · exact br_f e (nm_r (nI_1 k) (ih (k + 1) (by omega)))
theorem l_ok79 {post : Int32 → Prop} (hN : N < 1000) (K : ∀ v1 v2, ∃ kk : Int32, (∀ post : Int32 → Prop, post kk → wpX_resultKind post (xB, xD, xn, xo, xc, xl, oc, xu, xa, pk, xr, xw, en, cn, cb, cv, kd, na, nb, se, fn, tg, tn, pF, pS, cT, cB, bo, wN, wF, wB, wV) v1 v2) ∧ (kk = 3 → ∃ t, t < N ∧ ∀ post : Int32 → Prop, post (nI t) → wpX_resultValue post (xB, xD, xn, xo, xc, xl, oc, xu, xa, pk, xr, xw, en, cn, cb, cv, kd, na, nb, se, fn, tg, tn, pF, pS, cT, cB, bo, wN, wF, wB, wV) v1 v2)) (h : post 1) : ∀ d k, k + d = 7 → wL_ok_79 post (nI N) xB xD xn xo xc xl oc xu xa pk xr xw en cn cb cv kd na nb se fn tg tn pF pS cT cB bo wN wF wB wV (d + 1) (nI k - 1) := by
  intro d
  induction d with
  | zero =>
    intro k hk
    have e : k = 7 := by omega
    subst e
    exact br_t (by decide) h
  | succ d ih =>
    intro k hk
    obtain ⟨t1, t2⟩ := dm_t1 k (by omega)
    refine br_f t1 ⟨16 + 1, l_ok88 hN (K _) ?_ 16 0 (by omega)⟩
    rw [t2]
    exact ih (k + 1) (by omega)
end
theorem l_ok {post : Int32 → Prop} {u : St2} {B D : Nat} (R : dm_XR B D u) (h : post 1) : wpL_ok post u (nI B) (nI D) := by
  obtain ⟨xB, xD, xn, xo, xc, xl, oc, xu, xa, pk, xr, xw, en, cn, cb, cv, kd, na, nb, se, fn, tg, tn, pF, pS, cT, cB, bo, wN, wF, wB, wV⟩ := u
  obtain ⟨n, q, t, rfl, rfl, rfl, rfl, rfl, rfl, h1, h2, h3, h4, h5, b1, b2, d1, d2, P, R⟩ := R
  have hn := P.1
  have hcl := dm_cnt_le kd n
  have T70 : wL_ok_70 post (nI B) (nI D) (nI n) (nI (dm_O kd n)) xc xl oc (nI t) xa (nI q) xr xw en cn cb cv kd na nb se fn tg tn pF pS cT cB bo wN wF wB wV := by
    unfold wL_ok_70 wpX_lambdaCount
    rcases R with ⟨rfl, rfl, rfl⟩ | ⟨rfl, rfl, C, R⟩
    · refine ⟨7 + 1, l_ok79 (N := 0) (by omega) (fun v1 v2 => ?_) h 7 0 (by omega)⟩
      obtain ⟨kk, g1, g2⟩ := x_kv (kd := kd) (n := 0) (v1 := v1) (v2 := v2) dm_R10
      exact ⟨kk, g1, g2⟩
    · exact ⟨7 + 1, l_ok79 (by omega) (fun v1 v2 => x_kv R) h 7 0 (by omega)⟩
  have T55 : wL_ok_55 post (nI D) (nI q) oc (nI B) (nI D) (nI n) (nI (dm_O kd n)) xc xl oc (nI t) xa (nI q) xr xw en cn cb cv kd na nb se fn tg tn pF pS cT cB bo wN wF wB wV := by
    by_cases e : oc = 13
    · exact br_t e (br_t (by rw [h5 e]) T70)
    · exact br_f e T70
  refine br_f (nI_pos (by omega)) (br_f (nI_nlt h1 (by omega)) (br_f (nI_nlt h2 (by omega)) (br_t (nI_le h3 (by omega)) ?_)))
  by_cases e : oc = 12
  · exact br_t e (br_t (by rw [h4 e]) T55)
  · exact br_f e T55
end
section
/-! the law -/
theorem l_cell {post : Int32 → Prop} {L i : Nat} {xs : Nat → Int32} (hL : L ≤ 260) (hi : i < 2 ^ 31) (h : ∀ r, post r) : wpL_cell post L xs () (nI i) := by
  by_cases e : L ≤ i
  · exact br_t (nI_le e hi) (h _)
  · exact br_f (nI_ge (by omega) (by omega)) ⟨vp_in_nI (by omega) (by omega), h _⟩
theorem l_mod {post : Int32 → Prop} {p0 p1 : Int32} (hp : ¬ p1 = 0) (h : ∀ r, post r) : wpL_mod post () p0 p1 := ⟨hp, nm_e (br_c (fun _ => h _) (fun _ => h _))⟩
theorem l_ar {post : Int32 → Prop} {p0 : Int32} (h : ∀ r, (∃ a, a ≤ 3 ∧ r = nI a) → post r) : wpL_arity post () p0 :=
  br_c (fun _ => h _ ⟨0, by omega, rfl⟩) (fun _ => br_c (fun _ => h _ ⟨0, by omega, rfl⟩) (fun _ => br_c (fun _ => h _ ⟨3, by omega, rfl⟩) (fun _ => br_c (fun _ => h _ ⟨1, by omega, rfl⟩) (fun _ => br_c (fun _ => h _ ⟨1, by omega, rfl⟩) (fun _ => br_c (fun _ => h _ ⟨1, by omega, rfl⟩) (fun _ => h _ ⟨2, by omega, rfl⟩))))))
theorem l_low2 {post : Int32 → Prop} {p0 : Int32} (h : ∀ r, post r) : ∀ d k, k + d = 8 → wL_low_2 post p0 (d + 1) (nI k) := by
  intro d
  induction d with
  | zero =>
    intro k hk
    have e : k = 8 := by omega
    subst e
    exact br_t (nI_le (a := 8) (Nat.le_refl _) (by omega)) (h _)
  | succ d ih =>
    intro k hk
    exact br_f (nI_ge (b := 8) (by omega) (by omega)) (br_c (fun _ => nm_r (nI_1 k) (ih (k + 1) (by omega))) (fun _ => h _))
theorem l_low {post : Int32 → Prop} {p0 : Int32} (h : ∀ r, post r) : wpL_low post () p0 := ⟨8 + 1, l_low2 h 8 0 (by omega)⟩
section
variable {post : Int32 → Prop} {L : Nat} {xs : Nat → Int32} {x3 x4 x6 x7 x8 x11 x12 x13 x14 x15 x16 x17 x18 x19 x20 : Int32} {x9 : Int64} {kc ks B D t : Nat}
variable {J74 : (Int32 → Int32 → Int32 → Int32 → Int32 → Int32 → Int32 → Int32 → Int32 → Int32 → Int32 → Int32 → Int64 → Int32 → Int32 → Int32 → Int32 → Int64 → (Nat → Int32) → (Nat → Int32) → (Nat → Int32) → (Nat → Int32) → (Nat → Int32) → (Nat → Int32) → (Nat → Int32) → (Nat → Int64) → (Nat → Int64) → (Nat → Int32) → (Nat → Int32) → (Nat → Int64) → (Nat → Int32) → (Nat → Int32) → (Nat → Int32) → (Nat → Int64) → Prop)} {J160 : (Int32 → Int64 → Int32 → Int32 → Int32 → Int32 → Int32 → Int32 → Int32 → Int32 → Int32 → Int32 → Int32 → Int32 → Int32 → Int64 → Int32 → Int32 → Int32 → Int32 → Int64 → (Nat → Int32) → (Nat → Int32) → (Nat → Int32) → (Nat → Int32) → (Nat → Int32) → (Nat → Int32) → (Nat → Int32) → (Nat → Int64) → (Nat → Int64) → (Nat → Int32) → (Nat → Int32) → (Nat → Int64) → (Nat → Int32) → (Nat → Int32) → (Nat → Int32) → (Nat → Int64) → Prop)}
theorem l_514 {xB xD xn xo xc xl oc xu xa pk xw en cn cb : Int32} {xr cv : Int64} {kd na nb se fn tg tn cT cB wN wF wB : Nat → Int32} {pF pS bo wV : Nat → Int64} {a : Nat} (ha : a ≤ 3) (hJ : ∀ x9, J160 x6 x9 (x11 + nI a) x12 (x13 + 1) xB xD xn xo xc xl oc xu xa pk xr xw en cn cb cv kd na nb se fn tg tn pF pS cT cB bo wN wF wB wV) : ∀ d k x9, k + d = a → wL_law_514 post L xs J74 J160 x3 x4 x6 x7 x8 x11 x12 x13 x14 (nI a) kc ks xB xD xn xo xc xl oc xu xa pk xr xw en cn cb cv kd na nb se fn tg tn pF pS cT cB bo wN wF wB wV (d + 1) x9 (nI k) := by
  intro d
  induction d with
  | zero =>
    intro k x9 hk
    have e : k = a := by omega
    subst e
    exact br_t (nI_le (Nat.le_refl _) (by omega)) (nm_e (nm_e (hJ _)))
  | succ d ih =>
    intro k x9 hk
    exact br_f (nI_ge (by omega) (by omega)) (nm_e (nm_r (nI_1 k) (ih (k + 1) _ (by omega))))
theorem l_373 {xB xD xn xo xc xl oc xu xa pk xw en cn cb : Int32} {xr cv : Int64} {kd na nb se fn tg tn cT cB wN wF wB : Nat → Int32} {pF pS bo wV : Nat → Int64} (R : dm_XR B D (xB, xD, xn, xo, xc, xl, oc, xu, xa, pk, xr, xw, en, cn, cb, cv, kd, na, nb, se, fn, tg, tn, pF, pS, cT, cB, bo, wN, wF, wB, wV)) (ha : ∃ a, a ≤ 3 ∧ x18 = nI a) (hJ : ∀ (x9 : Int64) (x11 x12 : Int32) {xB xD xn xo xc xl oc xu xa pk xw en cn cb : Int32} {xr cv : Int64} {kd na nb se fn tg tn cT cB wN wF wB : Nat → Int32} {pF pS bo wV : Nat → Int64}, dm_XR B D (xB, xD, xn, xo, xc, xl, oc, xu, xa, pk, xr, xw, en, cn, cb, cv, kd, na, nb, se, fn, tg, tn, pF, pS, cT, cB, bo, wN, wF, wB, wV) → J160 x6 x9 x11 x12 (nI (t + 1)) xB xD xn xo xc xl oc xu xa pk xr xw en cn cb cv kd na nb se fn tg tn pF pS cT cB bo wN wF wB wV) : wL_law_373 post L xs J74 J160 (nI B) (nI D) x6 x7 x8 x9 x11 x12 (nI t) x14 x17 x18 x19 x20 kc ks xB xD xn xo xc xl oc xu xa pk xr xw en cn cb cv kd na nb se fn tg tn pF pS cT cB bo wN wF wB wV := by
  obtain ⟨a, ha, rfl⟩ := ha
  unfold wL_law_373
  refine x_nodeM R (fun r u' R' => ?_) _ _ _
  obtain ⟨xB, xD, xn, xo, xc, xl, oc, xu, xa, pk, xr, xw, en, cn, cb, cv, kd, na, nb, se, fn, tg, tn, pF, pS, cT, cB, bo, wN, wF, wB, wV⟩ := u'
  refine nm_e (l_ok R' (br_f (by decide) ?_))
  by_cases e13 : x17 = 13
  · exact br_t e13 (nm_e (nm_e (nm_r (nI_1 t) (hJ _ _ _ R'))))
  refine br_f e13 ?_
  by_cases e14 : x17 = 14
  · exact br_t e14 (nm_e (nm_e (nm_e (nm_r (nI_1 t) (hJ _ _ _ R')))))
  refine br_f e14 ?_
  by_cases e15 : x17 = 15
  · exact br_t e15 (nm_e (nm_e (nm_e (nm_r (nI_1 t) (hJ _ _ _ R')))))
  refine br_f e15 ⟨a + 1, l_514 ha (fun y => ?_) a 0 _ (by omega)⟩
  rw [nI_1]
  exact hJ _ _ _ R'
theorem l_275 {xB xD xn xo xc xl oc xu xa pk xw en cn cb : Int32} {xr cv : Int64} {kd na nb se fn tg tn cT cB wN wF wB : Nat → Int32} {pF pS bo wV : Nat → Int64} (R : dm_XR B D (xB, xD, xn, xo, xc, xl, oc, xu, xa, pk, xr, xw, en, cn, cb, cv, kd, na, nb, se, fn, tg, tn, pF, pS, cT, cB, bo, wN, wF, wB, wV)) (ha : ∃ a, a ≤ 3 ∧ x18 = nI a) (hJ : ∀ (x9 : Int64) (x11 x12 : Int32) {xB xD xn xo xc xl oc xu xa pk xw en cn cb : Int32} {xr cv : Int64} {kd na nb se fn tg tn cT cB wN wF wB : Nat → Int32} {pF pS bo wV : Nat → Int64}, dm_XR B D (xB, xD, xn, xo, xc, xl, oc, xu, xa, pk, xr, xw, en, cn, cb, cv, kd, na, nb, se, fn, tg, tn, pF, pS, cT, cB, bo, wN, wF, wB, wV) → J160 x6 x9 x11 x12 (nI (t + 1)) xB xD xn xo xc xl oc xu xa pk xr xw en cn cb cv kd na nb se fn tg tn pF pS cT cB bo wN wF wB wV) : wL_law_275 post L xs J74 J160 (nI B) (nI D) x6 x7 x8 x9 x11 x12 (nI t) x14 x16 x17 x18 kc ks xB xD xn xo xc xl oc xu xa pk xr xw en cn cb cv kd na nb se fn tg tn pF pS cT cB bo wN wF wB wV := by
  unfold wL_law_275
  exact l_mod (by decide) (fun r1 => l_mod (by decide) (fun r2 => br_c (fun _ => l_mod (by decide) (fun r3 => nm_e (l_373 R ha hJ))) (fun _ => br_c (fun _ => br_c (fun _ => br_c (fun _ => l_373 R ha hJ) (fun _ => br_c (fun _ => l_mod (by decide) (fun r3 => nm_e (l_373 R ha hJ))) (fun _ => l_low (fun r3 => l_373 R ha hJ)))) (fun _ => l_373 R ha hJ)) (fun _ => l_373 R ha hJ))))
theorem l_256 {xB xD xn xo xc xl oc xu xa pk xw en cn cb : Int32} {xr cv : Int64} {kd na nb se fn tg tn cT cB wN wF wB : Nat → Int32} {pF pS bo wV : Nat → Int64} (R : dm_XR B D (xB, xD, xn, xo, xc, xl, oc, xu, xa, pk, xr, xw, en, cn, cb, cv, kd, na, nb, se, fn, tg, tn, pF, pS, cT, cB, bo, wN, wF, wB, wV)) (hJ : ∀ (x9 : Int64) (x11 x12 : Int32) {xB xD xn xo xc xl oc xu xa pk xw en cn cb : Int32} {xr cv : Int64} {kd na nb se fn tg tn cT cB wN wF wB : Nat → Int32} {pF pS bo wV : Nat → Int64}, dm_XR B D (xB, xD, xn, xo, xc, xl, oc, xu, xa, pk, xr, xw, en, cn, cb, cv, kd, na, nb, se, fn, tg, tn, pF, pS, cT, cB, bo, wN, wF, wB, wV) → J160 x6 x9 x11 x12 (nI (t + 1)) xB xD xn xo xc xl oc xu xa pk xr xw en cn cb cv kd na nb se fn tg tn pF pS cT cB bo wN wF wB wV) : wL_law_256 post L xs J74 J160 (nI B) (nI D) x6 x7 x8 x9 x11 x12 (nI t) x14 x15 x16 kc ks xB xD xn xo xc xl oc xu xa pk xr xw en cn cb cv kd na nb se fn tg tn pF pS cT cB bo wN wF wB wV := by
  unfold wL_law_256 wL_law_270
  exact br_c (fun _ => l_275 R ⟨0, by omega, rfl⟩ hJ) (fun _ => l_275 R ⟨0, by omega, rfl⟩ hJ)
theorem l_160 {M : Nat} (hL : L ≤ 260) (hM : M < 2 ^ 30) (hE : ∀ (i : Nat) {xB xD xn xo xc xl oc xu xa pk xw en cn cb : Int32} {xr cv : Int64} {kd na nb se fn tg tn cT cB wN wF wB : Nat → Int32} {pF pS bo wV : Nat → Int64}, i ≤ M → dm_XR B D (xB, xD, xn, xo, xc, xl, oc, xu, xa, pk, xr, xw, en, cn, cb, cv, kd, na, nb, se, fn, tg, tn, pF, pS, cT, cB, bo, wN, wF, wB, wV) → wL_law_551 post L xs J74 (nI B) (nI D) (nI i) x7 x8 kc ks xB xD xn xo xc xl oc xu xa pk xr xw en cn cb cv kd na nb se fn tg tn pF pS cT cB bo wN wF wB wV) : ∀ (d t i : Nat) (x9 : Int64) (x11 x12 : Int32) {xB xD xn xo xc xl oc xu xa pk xw en cn cb : Int32} {xr cv : Int64} {kd na nb se fn tg tn cT cB wN wF wB : Nat → Int32} {pF pS bo wV : Nat → Int64}, t + d = 32 → i + 2 * d ≤ M → dm_XR B D (xB, xD, xn, xo, xc, xl, oc, xu, xa, pk, xr, xw, en, cn, cb, cv, kd, na, nb, se, fn, tg, tn, pF, pS, cT, cB, bo, wN, wF, wB, wV) → wL_law_160 post L xs J74 (nI B) (nI D) x7 x8 kc ks (d + 1) (nI i) x9 x11 x12 (nI t) xB xD xn xo xc xl oc xu xa pk xr xw en cn cb cv kd na nb se fn tg tn pF pS cT cB bo wN wF wB wV := by
  intro d
  induction d with
  | zero =>
    intro t i x9 x11 x12 xB xD xn xo xc xl oc xu xa pk xw en cn cb xr cv kd na nb se fn tg tn cT cB wN wF wB pF pS bo wV ht hi R
    have e : t = 32 := by omega
    subst e
    exact br_t (nI_le (a := 32) (Nat.le_refl _) (by omega)) (hE i (by omega) R)
  | succ d ih =>
    intro t i x9 x11 x12 xB xD xn xo xc xl oc xu xa pk xw en cn cb xr cv kd na nb se fn tg tn cT cB wN wF wB pF pS bo wV ht hi R
    refine br_f (nI_ge (b := 32) (by omega) (by omega)) (br_c (fun _ => hE i (by omega) R) (fun _ => nm_e (nm_e (nm_e (nm_r (nI_1 i) (l_cell hL (by omega) (fun r => nm_r (nI_1 (i + 1)) (l_cell hL (by omega) (fun r2 => l_mod (by decide) (fun r3 => nm_e (l_ar (fun r4 ha => ?_)))))))))))) 
    have hJ : ∀ (x9 : Int64) (x11 x12 : Int32) {xB xD xn xo xc xl oc xu xa pk xw en cn cb : Int32} {xr cv : Int64} {kd na nb se fn tg tn cT cB wN wF wB : Nat → Int32} {pF pS bo wV : Nat → Int64}, dm_XR B D (xB, xD, xn, xo, xc, xl, oc, xu, xa, pk, xr, xw, en, cn, cb, cv, kd, na, nb, se, fn, tg, tn, pF, pS, cT, cB, bo, wN, wF, wB, wV) → wL_law_160 post L xs J74 (nI B) (nI D) x7 x8 kc ks (d + 1) (nI (i + 1 + 1)) x9 x11 x12 (nI (t + 1)) xB xD xn xo xc xl oc xu xa pk xr xw en cn cb cv kd na nb se fn tg tn pF pS cT cB bo wN wF wB wV := by
      intro x9 x11 x12 xB xD xn xo xc xl oc xu xa pk xw en cn cb xr cv kd na nb se fn tg tn cT cB wN wF wB pF pS bo wV R'
      exact ih (t + 1) (i + 1 + 1) x9 x11 x12 (by omega) (by omega) R'
    exact br_c (fun _ => l_256 R hJ) (fun _ => br_c (fun _ => l_275 R ha hJ) (fun _ => l_256 R hJ))
theorem l_577 {xB xD xn xo xc xl oc xu xa pk xw en cn cb : Int32} {xr cv : Int64} {kd na nb se fn tg tn cT cB wN wF wB : Nat → Int32} {pF pS bo wV : Nat → Int64} (R : dm_XR B D (xB, xD, xn, xo, xc, xl, oc, xu, xa, pk, xr, xw, en, cn, cb, cv, kd, na, nb, se, fn, tg, tn, pF, pS, cT, cB, bo, wN, wF, wB, wV)) (hJ : ∀ {xB xD xn xo xc xl oc xu xa pk xw en cn cb : Int32} {xr cv : Int64} {kd na nb se fn tg tn cT cB wN wF wB : Nat → Int32} {pF pS bo wV : Nat → Int64}, dm_XR B D (xB, xD, xn, xo, xc, xl, oc, xu, xa, pk, xr, xw, en, cn, cb, cv, kd, na, nb, se, fn, tg, tn, pF, pS, cT, cB, bo, wN, wF, wB, wV) → J74 x6 (x7 + 1) xB xD xn xo xc xl oc xu xa pk xr xw en cn cb cv kd na nb se fn tg tn pF pS cT cB bo wN wF wB wV) : wL_law_577 post L xs J74 (nI B) (nI D) x6 x7 x8 kc ks xB xD xn xo xc xl oc xu xa pk xr xw en cn cb cv kd na nb se fn tg tn pF pS cT cB bo wN wF wB wV := by
  unfold wL_law_577
  refine x_runM R (fun r u' R' => ?_)
  obtain ⟨xB, xD, xn, xo, xc, xl, oc, xu, xa, pk, xr, xw, en, cn, cb, cv, kd, na, nb, se, fn, tg, tn, pF, pS, cT, cB, bo, wN, wF, wB, wV⟩ := u'
  refine l_ok R' (br_f (by decide) (br_c (fun _ => nm_e (hJ R')) (fun _ => ?_)))
  refine x_runM R' (fun r u' R' => ?_)
  obtain ⟨xB, xD, xn, xo, xc, xl, oc, xu, xa, pk, xr, xw, en, cn, cb, cv, kd, na, nb, se, fn, tg, tn, pF, pS, cT, cB, bo, wN, wF, wB, wV⟩ := u'
  exact l_ok R' (br_f (by decide) (nm_e (hJ R')))
theorem l_551 {xB xD xn xo xc xl oc xu xa pk xw en cn cb : Int32} {xr cv : Int64} {kd na nb se fn tg tn cT cB wN wF wB : Nat → Int32} {pF pS bo wV : Nat → Int64} (R : dm_XR B D (xB, xD, xn, xo, xc, xl, oc, xu, xa, pk, xr, xw, en, cn, cb, cv, kd, na, nb, se, fn, tg, tn, pF, pS, cT, cB, bo, wN, wF, wB, wV)) (hJ : ∀ {xB xD xn xo xc xl oc xu xa pk xw en cn cb : Int32} {xr cv : Int64} {kd na nb se fn tg tn cT cB wN wF wB : Nat → Int32} {pF pS bo wV : Nat → Int64}, dm_XR B D (xB, xD, xn, xo, xc, xl, oc, xu, xa, pk, xr, xw, en, cn, cb, cv, kd, na, nb, se, fn, tg, tn, pF, pS, cT, cB, bo, wN, wF, wB, wV) → J74 x6 (x7 + 1) xB xD xn xo xc xl oc xu xa pk xr xw en cn cb cv kd na nb se fn tg tn pF pS cT cB bo wN wF wB wV) : wL_law_551 post L xs J74 (nI B) (nI D) x6 x7 x8 kc ks xB xD xn xo xc xl oc xu xa pk xr xw en cn cb cv kd na nb se fn tg tn pF pS cT cB bo wN wF wB wV := by
  unfold wL_law_551
  refine br_c (fun _ => ?_) (fun _ => l_577 R hJ)
  refine x_compM R (fun r u' R' => ?_)
  obtain ⟨xB, xD, xn, xo, xc, xl, oc, xu, xa, pk, xr, xw, en, cn, cb, cv, kd, na, nb, se, fn, tg, tn, pF, pS, cT, cB, bo, wN, wF, wB, wV⟩ := u'
  exact l_ok R' (br_f (by decide) (l_577 R' hJ))
theorem l_130 {xB xD xn xo xc xl oc xu xa pk xw en cn cb : Int32} {xr cv : Int64} {kd na nb se fn tg tn cT cB wN wF wB : Nat → Int32} {pF pS bo wV : Nat → Int64} {M i : Nat} (hL : L ≤ 260) (hM : M < 2 ^ 30) (hi : i + 64 ≤ M) (R : dm_XR B D (xB, xD, xn, xo, xc, xl, oc, xu, xa, pk, xr, xw, en, cn, cb, cv, kd, na, nb, se, fn, tg, tn, pF, pS, cT, cB, bo, wN, wF, wB, wV)) (hJ : ∀ (i : Nat) {xB xD xn xo xc xl oc xu xa pk xw en cn cb : Int32} {xr cv : Int64} {kd na nb se fn tg tn cT cB wN wF wB : Nat → Int32} {pF pS bo wV : Nat → Int64}, i ≤ M → dm_XR B D (xB, xD, xn, xo, xc, xl, oc, xu, xa, pk, xr, xw, en, cn, cb, cv, kd, na, nb, se, fn, tg, tn, pF, pS, cT, cB, bo, wN, wF, wB, wV) → J74 (nI i) (x7 + 1) xB xD xn xo xc xl oc xu xa pk xr xw en cn cb cv kd na nb se fn tg tn pF pS cT cB bo wN wF wB wV) : wL_law_130 post L xs J74 (nI B) (nI D) (nI i) x7 x8 kc ks xB xD xn xo xc xl oc xu xa pk xr xw en cn cb cv kd na nb se fn tg tn pF pS cT cB bo wN wF wB wV := by
  unfold wL_law_130
  refine x_resetM R (fun u' R' => ?_)
  obtain ⟨xB, xD, xn, xo, xc, xl, oc, xu, xa, pk, xr, xw, en, cn, cb, cv, kd, na, nb, se, fn, tg, tn, pF, pS, cT, cB, bo, wN, wF, wB, wV⟩ := u'
  refine l_ok R' (br_f (by decide) ⟨32 + 1, ?_⟩)
  refine l_160 hL hM (fun i => ?_) 32 0 i 0 1 0 (by omega) (by omega) R'
  intro xB xD xn xo xc xl oc xu xa pk xw en cn cb xr cv kd na nb se fn tg tn cT cB wN wF wB pF pS bo wV hi R'
  exact l_551 R' (fun R' => hJ i hi R')
theorem l_93 {xB xD xn xo xc xl oc xu xa pk xw en cn cb : Int32} {xr cv : Int64} {kd na nb se fn tg tn cT cB wN wF wB : Nat → Int32} {pF pS bo wV : Nat → Int64} {M i : Nat} (hL : L ≤ 260) (hM : M < 2 ^ 30) (hi : i + 65 ≤ M) (R : dm_XR B D (xB, xD, xn, xo, xc, xl, oc, xu, xa, pk, xr, xw, en, cn, cb, cv, kd, na, nb, se, fn, tg, tn, pF, pS, cT, cB, bo, wN, wF, wB, wV)) (hJ : ∀ (i : Nat) {xB xD xn xo xc xl oc xu xa pk xw en cn cb : Int32} {xr cv : Int64} {kd na nb se fn tg tn cT cB wN wF wB : Nat → Int32} {pF pS bo wV : Nat → Int64}, i ≤ M → dm_XR B D (xB, xD, xn, xo, xc, xl, oc, xu, xa, pk, xr, xw, en, cn, cb, cv, kd, na, nb, se, fn, tg, tn, pF, pS, cT, cB, bo, wN, wF, wB, wV) → J74 (nI i) (x7 + 1) xB xD xn xo xc xl oc xu xa pk xr xw en cn cb cv kd na nb se fn tg tn pF pS cT cB bo wN wF wB wV) : wL_law_93 post L xs J74 (nI B) (nI D) (nI i) x7 kc ks xB xD xn xo xc xl oc xu xa pk xr xw en cn cb cv kd na nb se fn tg tn pF pS cT cB bo wN wF wB wV := by
  unfold wL_law_93
  refine nm_r (nI_1 i) (l_cell hL (by omega) (fun r => br_c (fun _ => l_130 hL hM (by omega) R hJ) (fun _ => ?_)))
  refine x_runM R (fun r u' R' => ?_)
  obtain ⟨xB, xD, xn, xo, xc, xl, oc, xu, xa, pk, xr, xw, en, cn, cb, cv, kd, na, nb, se, fn, tg, tn, pF, pS, cT, cB, bo, wN, wF, wB, wV⟩ := u'
  exact l_ok R' (br_f (by decide) (l_130 hL hM (by omega) R' hJ))
theorem l_74 (hL : L ≤ 260) (h : post 1) : ∀ (d r i : Nat) {xB xD xn xo xc xl oc xu xa pk xw en cn cb : Int32} {xr cv : Int64} {kd na nb se fn tg tn cT cB wN wF wB : Nat → Int32} {pF pS bo wV : Nat → Int64}, r + d = L + 1 → i ≤ 2 + 65 * r → dm_XR B D (xB, xD, xn, xo, xc, xl, oc, xu, xa, pk, xr, xw, en, cn, cb, cv, kd, na, nb, se, fn, tg, tn, pF, pS, cT, cB, bo, wN, wF, wB, wV) → wL_law_74 post L xs (nI B) (nI D) kc ks (d + 1) (nI i) (nI r) xB xD xn xo xc xl oc xu xa pk xr xw en cn cb cv kd na nb se fn tg tn pF pS cT cB bo wN wF wB wV := by
  intro d
  induction d with
  | zero =>
    intro r i xB xD xn xo xc xl oc xu xa pk xw en cn cb xr cv kd na nb se fn tg tn cT cB wN wF wB pF pS bo wV hr hi R
    exact br_t (nI_lt (a := L) (b := r) (by omega) (by omega)) h
  | succ d ih =>
    intro r i xB xD xn xo xc xl oc xu xa pk xw en cn cb xr cv kd na nb se fn tg tn cT cB wN wF wB pF pS bo wV hr hi R
    have hJ : ∀ (i' : Nat) {xB xD xn xo xc xl oc xu xa pk xw en cn cb : Int32} {xr cv : Int64} {kd na nb se fn tg tn cT cB wN wF wB : Nat → Int32} {pF pS bo wV : Nat → Int64}, i' ≤ i + 65 → dm_XR B D (xB, xD, xn, xo, xc, xl, oc, xu, xa, pk, xr, xw, en, cn, cb, cv, kd, na, nb, se, fn, tg, tn, pF, pS, cT, cB, bo, wN, wF, wB, wV) → wL_law_74 post L xs (nI B) (nI D) kc ks (d + 1) (nI i') (nI r + 1) xB xD xn xo xc xl oc xu xa pk xr xw en cn cb cv kd na nb se fn tg tn pF pS cT cB bo wN wF wB wV := by
      intro i' xB xD xn xo xc xl oc xu xa pk xw en cn cb xr cv kd na nb se fn tg tn cT cB wN wF wB pF pS bo wV hi' R'
      rw [nI_1]
      exact ih (r + 1) i' (by omega) (by omega) R'
    refine br_f (nI_nlt (a := L) (b := r) (by omega) (by omega)) (br_c (fun _ => l_93 hL (by omega) (Nat.le_refl _) R hJ) (fun _ => br_c (fun _ => h) (fun _ => l_93 hL (by omega) (Nat.le_refl _) R hJ)))
end
theorem x_initM {post : St2 → Prop} {p0 p1 : Int32} {B D : Nat} (hB : ∀ A : Int32 → Prop, A (nI B) → ((1 ≤ p0 → ((p0 ≤ nI 64 → A p0) ∧ (¬ p0 ≤ nI 64 → A (nI 64)))) ∧ (¬ 1 ≤ p0 → A 1))) (hD : ∀ A : Int32 → Prop, A (nI D) → ((1 ≤ p1 → ((p1 ≤ nI 8 → A p1) ∧ (¬ p1 ≤ nI 8 → A (nI 8)))) ∧ (¬ 1 ≤ p1 → A 1))) (h : ∀ u, dm_XR B D u → post u) (b1 : 1 ≤ B) (b2 : B ≤ 64) (d1 : 1 ≤ D) (d2 : D ≤ 8) : wpX_init post 16 2156 (0, 0, 0, 0, 0, 0, 0, 0, 0, 0, 0, 0, 0, 0, 0, 0) p0 p1 := by
  have xB : ∀ post : Int32 → Prop, post (nI B) → wpX_clamp post () p0 64 := fun post h => hB post h
  have xD : ∀ post : Int32 → Prop, post (nI D) → wpX_clamp post () p1 8 := fun post h => hD post h
  unfold wpX_init
  refine ⟨by decide, by decide, by decide, by decide, by decide, by decide, by decide, by decide, by decide, by decide, by decide, by decide, by decide, by decide, by decide, by decide, by decide, by decide, by decide, by decide, by decide, by decide, by decide, by decide, by decide, by decide, by decide, by decide, by decide, by decide, by decide, by decide, ?_⟩
  refine xB _ (xD _ ?_)
  unfold wpX_reset
  exact h _ ⟨0, 0, 0, rfl, rfl, rfl, rfl, rfl, rfl, Nat.le_refl _, Nat.zero_le _, Nat.zero_le _, fun g => absurd g (by decide), fun g => absurd g (by decide), b1, b2, d1, d2, dm_Pg0 _ _ _, Or.inl ⟨rfl, rfl, rfl⟩⟩
theorem i_vc (xs : Nat → Int32) (L : Nat) (hL : L ≤ 260) : wpL_law (fun r => r = 1) L xs := by
  unfold wpL_law
  refine l_cell (i := 0) hL (by omega) (fun r1 => l_mod (by decide) (fun r2 => ?_))
  intro x1 e1
  refine l_cell (i := 1) hL (by omega) (fun r3 => l_mod (by decide) (fun r4 => ?_))
  intro x2 e2
  obtain ⟨B, b1, b2, hB⟩ := dm_clx x1 64 (by omega) (by omega)
  obtain ⟨D, d1, d2, hD⟩ := dm_clx x2 8 (by omega) (by omega)
  have lB : ∀ post : Int32 → Prop, post (nI B) → wpL_clamp post () x1 1 64 := fun post h => hB post h
  have lD : ∀ post : Int32 → Prop, post (nI D) → wpL_clamp post () x2 1 8 := fun post h => hD post h
  refine lB _ (lD _ ⟨16, 2156, by decide, by decide, ?_⟩)
  refine x_initM hB hD (fun u R => ?_) b1 b2 d1 d2
  obtain ⟨xB, xD, xn, xo, xc, xl, oc, xu, xa, pk, xr, xw, en, cn, cb, cv, kd, na, nb, se, fn, tg, tn, pF, pS, cT, cB, bo, wN, wF, wB, wV⟩ := u
  exact l_ok R (br_f (by decide) ⟨L + 1 + 1, l_74 (post := fun r => r = 1) hL rfl (L + 1) 0 2 (by omega) (by omega) R⟩)
end
