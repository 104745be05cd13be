section
theorem pk_us {f : Nat → Int32} {k : Nat} {x : Int32} : upd f k x k = x := if_pos rfl
theorem pk_un {f : Nat → Int32} {k j : Nat} {x : Int32} (h : j ≠ k) : upd f k x j = f j := if_neg h
theorem pk_uLs {f : Nat → Int64} {k : Nat} {x : Int64} : vp_updL f k x k = x := if_pos rfl
theorem pk_uLn {f : Nat → Int64} {k j : Nat} {x : Int64} (h : j ≠ k) : vp_updL f k x j = f j := if_neg h
theorem pk_sub {a b : Nat} (h : b ≤ a) : nI a - nI b = nI (a - b) := by
  obtain ⟨c, rfl⟩ : ∃ c, a = c + b := ⟨a - b, by omega⟩
  rw [← nI_add, Int32.add_sub_cancel, Nat.add_sub_cancel]
theorem pk_m1 (n : Nat) : nI (n + 1) + (-1) = nI n := by
  rw [← nI_1, Int32.add_assoc, show (1 : Int32) + (-1) = 0 from rfl, Int32.add_zero]
theorem pk_mul (a b : Nat) : nI a * nI b = nI (a * b) := (Int32.ofNat_mul a b).symm
theorem pk_div {a d : Nat} (ha : a < 2 ^ 31) (h0 : 0 < d) (hd : d < 2 ^ 31) : nI a / nI d = nI (a / d) := by
  apply Int32.toInt_inj.mp
  rw [lg_idiv_nonneg (by rw [nI_toInt ha]; omega) (by rw [nI_toInt hd]; omega), nI_toInt ha, nI_toInt hd, nI_toInt (Nat.lt_of_le_of_lt (Nat.div_le_self a d) ha)]
  first | rfl | exact (Int.natCast_ediv _ _).symm
theorem pk_rem {a d : Nat} (ha : a < 2 ^ 31) (h0 : 0 < d) (hd : d < 2 ^ 31) : nI a - nI a / nI d * nI d = nI (a % d) := by
  rw [pk_div ha h0 hd, pk_mul, pk_sub (Nat.div_mul_le_self a d)]
  exact congrArg nI (by have := Nat.div_add_mod' a d; omega)
theorem pk_sub_toInt {a b : Nat} (ha : a < 2 ^ 30) (hb : b < 2 ^ 30) : (nI a - nI b).toInt = (a : Int) - b := by
  rw [Int32.toInt_sub, nI_toInt (by omega), nI_toInt (by omega)]
  exact Int.bmod_eq_of_le (by omega) (by omega)
theorem pk_sneg {a b : Nat} (hb : b < 2 ^ 30) (h : a < b) : nI a - nI b < 0 := by
  rw [Int32.lt_iff_toInt_lt, pk_sub_toInt (by omega) hb, show (0 : Int32).toInt = 0 from by decide]
  omega
theorem pk_ix (x : Int32) {n : Nat} (hn : n < 2 ^ 31) : x < 0 ∨ nI n ≤ x ∨ ∃ j : Nat, j < n ∧ x = nI j := by
  by_cases h : x < 0
  · exact Or.inl h
  · obtain ⟨j, hj, rfl⟩ := nI_of h
    by_cases h2 : j < n
    · exact Or.inr (Or.inr ⟨j, h2, rfl⟩)
    · exact Or.inr (Or.inl (nI_le (by omega) hj))
theorem pk_le {x y : Int32} {A B : Prop} (a b : Nat) (f : a ≤ b → A) (g : b < a → B) (hx : x = nI a := by rfl) (hy : y = nI b := by rfl) (ha : a < 2 ^ 31 := by omega) (hb : b < 2 ^ 31 := by omega) : (x ≤ y → A) ∧ (¬ x ≤ y → B) := by
  subst hx hy
  rw [nI_leI ha hb]
  exact ⟨f, fun z => g (by omega)⟩
theorem pk_lt {x y : Int32} {A B : Prop} (a b : Nat) (f : a < b → A) (g : b ≤ a → B) (hx : x = nI a := by rfl) (hy : y = nI b := by rfl) (ha : a < 2 ^ 31 := by omega) (hb : b < 2 ^ 31 := by omega) : (x < y → A) ∧ (¬ x < y → B) := by
  subst hx hy
  rw [nI_ltI ha hb]
  exact ⟨f, fun z => g (by omega)⟩
theorem pk_eq {x y : Int32} {A B : Prop} (a b : Nat) (f : a = b → A) (g : a ≠ b → B) (hx : x = nI a := by rfl) (hy : y = nI b := by rfl) (ha : a < 2 ^ 31 := by omega) (hb : b < 2 ^ 31 := by omega) : (x = y → A) ∧ (¬ x = y → B) := by
  subst hx hy
  rw [nI_eq ha hb]
  exact ⟨f, g⟩
theorem pk_in {x : Int32} (n N : Nat) (h : n < N) (hx : x = nI n := by rfl) (hN : N < 2 ^ 31 := by omega) : vp_in x N := by
  subst hx
  exact vp_in_nI h hN
theorem pk_cl {x : Int32} (n : Nat) (hx : x = nI n := by rfl) (h : n < 2 ^ 31 := by omega) : x.toNatClampNeg = n := by
  subst hx
  exact nI_clamp h
theorem pk_tn {n : Nat} (h : n < 2 ^ 32) : (nI n).toBitVec.toNat = n := Nat.mod_eq_of_lt h
theorem pk_and (x : Int32) {m : Int32} (k : Nat) (hm : m.toBitVec.toNat = 2 ^ k - 1) : x &&& m = nI (x.toBitVec.toNat % 2 ^ k) := by
  apply Int32.toBitVec_inj.mp
  apply BitVec.eq_of_toNat_eq
  rw [Int32.toBitVec_and, BitVec.toNat_and, hm, Nat.and_two_pow_sub_one_eq_mod]
  show _ = (BitVec.ofNat 32 _).toNat
  rw [BitVec.toNat_ofNat]
  exact (Nat.mod_eq_of_lt (Nat.lt_of_le_of_lt (Nat.mod_le _ _) x.toBitVec.isLt)).symm
theorem pk_andN {n : Nat} (h : n < 2 ^ 32) {m : Int32} (k : Nat) (hm : m.toBitVec.toNat = 2 ^ k - 1) : nI n &&& m = nI (n % 2 ^ k) := by
  rw [pk_and _ k hm, pk_tn h]
theorem pk_andE (x : Int32) {m : Int32} (k : Nat) (hm : m.toBitVec.toNat = 2 ^ k - 1) : ∃ j : Nat, j < 2 ^ k ∧ x &&& m = nI j := ⟨_, Nat.mod_lt _ (Nat.two_pow_pos k), pk_and x k hm⟩
theorem pk_andIn (x : Int32) {m : Int32} (k : Nat) (hm : m.toBitVec.toNat = 2 ^ k - 1) (hk : k ≤ 30) : vp_in (x &&& m) (2 ^ k) := by
  obtain ⟨j, hj, e⟩ := pk_andE x k hm
  rw [e]
  exact vp_in_nI hj (Nat.lt_of_le_of_lt (Nat.pow_le_pow_right (by decide) hk) (by decide))
theorem pk_shl (a s : Int32) (k : Nat) (hs : (s.toBitVec.smod 32).toNat = k) : (a <<< s).toBitVec.toNat = a.toBitVec.toNat * 2 ^ k % 2 ^ 32 := by
  show (a.toBitVec <<< (s.toBitVec.smod 32).toNat).toNat = _
  rw [hs, BitVec.toNat_shiftLeft, Nat.shiftLeft_eq]
theorem pk_shlN {n : Nat} (s : Int32) (k : Nat) (hs : (s.toBitVec.smod 32).toNat = k) (h : n * 2 ^ k < 2 ^ 32) : nI n <<< s = nI (n * 2 ^ k) := by
  apply Int32.toBitVec_inj.mp
  apply BitVec.eq_of_toNat_eq
  have hn : n < 2 ^ 32 := Nat.lt_of_le_of_lt (Nat.le_mul_of_pos_right n (Nat.two_pow_pos k)) h
  rw [pk_shl _ _ k hs, pk_tn hn, pk_tn h, Nat.mod_eq_of_lt h]
theorem pk_shr (a s : Int32) (k : Nat) (hs : (s.toBitVec.smod 32).toNat = k) : (a >>> s).toInt = a.toInt >>> k := by
  show (a.toBitVec.sshiftRight (s.toBitVec.smod 32).toNat).toInt = _
  rw [hs, BitVec.toInt_sshiftRight]
  rfl
theorem pk_shrN {n : Nat} (h : n < 2 ^ 31) (s : Int32) (k : Nat) (hs : (s.toBitVec.smod 32).toNat = k) : nI n >>> s = nI (n / 2 ^ k) := by
  apply Int32.toInt_inj.mp
  have h2 : n / 2 ^ k ≤ n := Nat.div_le_self _ _
  rw [pk_shr _ _ k hs, nI_toInt h, nI_toInt (by omega), Int.shiftRight_eq_div_pow]
  rfl
theorem pk_ushr (x s : Int32) (k : Nat) (hs : ((s.toUInt32 &&& Int32.toUInt32 31).toBitVec % 32).toNat = k) : (x.toUInt32 >>> (s.toUInt32 &&& Int32.toUInt32 31)).toInt32.toBitVec.toNat = x.toBitVec.toNat / 2 ^ k := by
  have e : (x.toUInt32 >>> (s.toUInt32 &&& Int32.toUInt32 31)).toInt32.toBitVec = x.toBitVec >>> k := by
    rw [← hs]
    exact UInt32.toBitVec_shiftRight _ _
  rw [e, BitVec.toNat_ushiftRight, Nat.shiftRight_eq_div_pow]
theorem pk_ushrN {n : Nat} (hn : n < 2 ^ 32) (s : Int32) (k : Nat) (hs : ((s.toUInt32 &&& Int32.toUInt32 31).toBitVec % 32).toNat = k) : ((nI n).toUInt32 >>> (s.toUInt32 &&& Int32.toUInt32 31)).toInt32 = nI (n / 2 ^ k) := by
  apply Int32.toBitVec_inj.mp
  apply BitVec.eq_of_toNat_eq
  rw [pk_ushr _ s k hs, pk_tn hn, pk_tn (Nat.lt_of_le_of_lt (Nat.div_le_self _ _) hn)]
theorem pk_lT {n : Nat} (h : n < 2 ^ 63) : (lN n).toInt = (n : Int) := lg_ofNat_toInt h
theorem pk_lLT {a b : Nat} (ha : a < 2 ^ 63) (hb : b < 2 ^ 63) : lN a < lN b ↔ a < b := by
  rw [Int64.lt_iff_toInt_lt, pk_lT ha, pk_lT hb]; omega
theorem pk_lLE {a b : Nat} (ha : a < 2 ^ 63) (hb : b < 2 ^ 63) : lN a ≤ lN b ↔ a ≤ b := by
  rw [Int64.le_iff_toInt_le, pk_lT ha, pk_lT hb]; omega
theorem pk_lEQ {a b : Nat} (ha : a < 2 ^ 63) (hb : b < 2 ^ 63) : lN a = lN b ↔ a = b := by
  rw [← Int64.toInt_inj, pk_lT ha, pk_lT hb]; omega
theorem pk_lOf {x : Int64} (h : ¬ x < 0) : ∃ k : Nat, k < 2 ^ 63 ∧ x = lN k := by
  rw [Int64.lt_iff_toInt_lt] at h
  have h0 : (0 : Int64).toInt = 0 := by decide
  have hx := Int64.toInt_lt x
  refine ⟨x.toInt.toNat, by omega, Int64.toInt_inj.mp ?_⟩
  rw [pk_lT (by omega)]
  omega
theorem pk_lDiv {a b : Nat} (ha : a < 2 ^ 63) (h0 : 0 < b) (hb : b < 2 ^ 63) : lN a / lN b = lN (a / b) := by
  apply Int64.toInt_inj.mp
  rw [lg_ldiv_nonneg (by rw [pk_lT ha]; omega) (by rw [pk_lT hb]; omega), pk_lT ha, pk_lT hb, pk_lT (Nat.lt_of_le_of_lt (Nat.div_le_self a b) ha)]
  rfl
theorem pk_lRem {a b : Nat} (ha : a < 2 ^ 63) (h0 : 0 < b) (hb : b < 2 ^ 63) : lN a - lN a / lN b * lN b = lN (a % b) := by
  rw [pk_lDiv ha h0 hb, lN_mul, lN_sub (Nat.div_mul_le_self a b)]
  exact congrArg lN (by have := Nat.div_add_mod' a b; omega)
theorem pk_loop {σ : Type} (W : Nat → Nat → σ → Prop) (I : Nat → σ → Prop) (e i0 : Nat) (s : σ) (hi : i0 ≤ e) (h0 : I i0 s) (hx : ∀ n s, I e s → W (n + 1) e s)
    (hs : ∀ n i s, i < e → I i s → (∀ s', I (i + 1) s' → W n (i + 1) s') → W (n + 1) i s) : ∃ n, W n i0 s :=
  ⟨e + 1, loop_i W I e hx hs (e + 1) i0 s hi (by omega) h0⟩
theorem pk_loopD {σ : Type} (W : Nat → Nat → σ → Prop) (I : Nat → σ → Prop) (hx : ∀ n s, I 0 s → W (n + 1) 0 s)
    (hs : ∀ n i s, I (i + 1) s → (∀ s', I i s' → W n i s') → W (n + 1) (i + 1) s) : ∀ (e : Nat) (s : σ), I e s → W (e + 1) e s := by
  intro e
  induction e with
  | zero => exact fun s h => hx 0 s h
  | succ e ih => exact fun s h => hs (e + 1) e s h (fun s' h' => ih s' h')
theorem pk_least (P : Nat → Prop) (h : ∃ k, P k) : ∃ k, P k ∧ ∀ j, j < k → ¬ P j := by
  obtain ⟨k, hk⟩ := h
  induction k using Nat.strongRecOn with
  | ind k ih =>
    by_cases e : ∃ j, j < k ∧ P j
    · obtain ⟨j, hj, pj⟩ := e
      exact ih j hj pj
    · exact ⟨k, hk, fun j hj pj => e ⟨j, hj, pj⟩⟩
theorem pk_mu {x : Int32} {L : Nat} (h0 : ¬ x < 0) (h : ¬ nI L ≤ x) (hL : L < 2 ^ 31) : ∃ j : Nat, j < L ∧ x = nI j ∧ x + 1 = nI (j + 1) ∧ x.toNatClampNeg = j ∧ L - (x + 1).toNatClampNeg < L - x.toNatClampNeg := by
  obtain ⟨j, hj, rfl⟩ := nI_of h0
  have hl : j < L := Nat.not_le.mp fun q => h (nI_le q hj)
  refine ⟨j, hl, rfl, nI_1 j, nI_clamp hj, ?_⟩
  rw [nI_1, nI_clamp (by omega), nI_clamp hj]
  omega
theorem sb_shr0 (x : Int32) : x >>> ((0 : Int32) &&& 31) = x := by
  rw [show ((0 : Int32) &&& 31) = 0 by decide]
  simp
theorem sb_shl0 (x : Int32) : x <<< ((0 : Int32) &&& 31) = x := by
  rw [show ((0 : Int32) &&& 31) = 0 by decide]
  simp
theorem sb_cl0 : (0 : Int32).toNatClampNeg = 0 := by decide
theorem sb_m1 {p : Nat} (h : 0 < p) : nI p + (-1) = nI (p - 1) := by
  obtain ⟨q, rfl⟩ : ∃ q, p = q + 1 := ⟨p - 1, by omega⟩
  exact pk_m1 q
def bt (x : Int32) (i : Nat) : Bool := x.toBitVec.getLsbD i
theorem b_ext {x y : Int32} (h : ∀ i, i < 32 → bt x i = bt y i) : x = y := Int32.toBitVec_inj.mp (BitVec.eq_of_getLsbD_eq (fun i hi => h i hi))
theorem b_or (x y : Int32) (i : Nat) : bt (x ||| y) i = (bt x i || bt y i) := by unfold bt; rw [Int32.toBitVec_or, BitVec.getLsbD_or]
theorem b_and (x y : Int32) (i : Nat) : bt (x &&& y) i = (bt x i && bt y i) := by unfold bt; rw [Int32.toBitVec_and, BitVec.getLsbD_and]
theorem b_xor (x y : Int32) (i : Nat) : bt (x ^^^ y) i = (bt x i ^^ bt y i) := by unfold bt; rw [Int32.toBitVec_xor, BitVec.getLsbD_xor]
theorem b_big {x : Int32} {i : Nat} (h : 32 ≤ i) : bt x i = false := BitVec.getLsbD_of_ge _ _ h
theorem b_255 (i : Nat) : bt 255 i = decide (i < 8) := by
  rcases Nat.lt_or_ge i 32 with h | h
  · exact (by decide +kernel : ∀ i, i < 32 → bt 255 i = decide (i < 8)) i h
  · rw [b_big h, decide_eq_false (by omega)]
theorem b_65535 (i : Nat) : bt 65535 i = decide (i < 16) := by
  rcases Nat.lt_or_ge i 32 with h | h
  · exact (by decide +kernel : ∀ i, i < 32 → bt 65535 i = decide (i < 16)) i h
  · rw [b_big h, decide_eq_false (by omega)]
theorem b_m1 : ∀ i, i < 32 → bt (-1) i = true := by decide +kernel
theorem b_0 (i : Nat) : bt 0 i = false := BitVec.getLsbD_zero
theorem s_l : ∀ n, n < 32 → ((nI n &&& 31).toBitVec.smod 32).toNat = n := by decide +kernel
theorem s_u : ∀ n, n < 32 → (((nI n).toUInt32 &&& Int32.toUInt32 31).toBitVec % 32).toNat = n := by decide +kernel
theorem b_shl (n : Nat) (hn : n < 32) (x : Int32) {i : Nat} (hi : i < 32) : bt (x <<< (nI n &&& 31)) i = (decide (n ≤ i) && bt x (i - n)) := by
  unfold bt
  rw [Int32.toBitVec_shiftLeft]
  show (x.toBitVec <<< ((nI n &&& 31).toBitVec.smod 32).toNat).getLsbD i = _
  rw [s_l n hn, BitVec.getLsbD_shiftLeft]
  rcases Nat.lt_or_ge i n with h | h
  · simp [h, Nat.not_le.mpr h]
  · simp [hi, h, Nat.not_lt.mpr h]
theorem b_ushr (n : Nat) (hn : n < 32) (x : Int32) (i : Nat) : bt ((x.toUInt32 >>> ((nI n).toUInt32 &&& Int32.toUInt32 31)).toInt32) i = bt x (n + i) := by
  show (x.toUInt32 >>> ((nI n).toUInt32 &&& Int32.toUInt32 31)).toBitVec.getLsbD i = x.toUInt32.toBitVec.getLsbD (n + i)
  rw [UInt32.toBitVec_shiftRight]
  show (x.toUInt32.toBitVec >>> (((nI n).toUInt32 &&& Int32.toUInt32 31).toBitVec % 32).toNat).getLsbD i = _
  rw [s_u n hn, BitVec.getLsbD_ushiftRight]
theorem b_sshr (n : Nat) (hn : n < 32) (x : Int32) {i : Nat} (hi : i < 32) : bt (x >>> (nI n &&& 31)) i = if n + i < 32 then bt x (n + i) else bt x 31 := by
  unfold bt
  rw [Int32.toBitVec_shiftRight]
  show (x.toBitVec.sshiftRight ((nI n &&& 31).toBitVec.smod 32).toNat).getLsbD i = _
  rw [s_l n hn, BitVec.getLsbD_sshiftRight, BitVec.msb_eq_getLsbD_last]
  simp [hi]
theorem b_shl8 (x : Int32) {i : Nat} (hi : i < 32) : bt (x <<< ((8 : Int32) &&& 31)) i = (decide (8 ≤ i) && bt x (i - 8)) := b_shl 8 (by omega) x hi
theorem b_shl16 (x : Int32) {i : Nat} (hi : i < 32) : bt (x <<< ((16 : Int32) &&& 31)) i = (decide (16 ≤ i) && bt x (i - 16)) := b_shl 16 (by omega) x hi
theorem b_shl24 (x : Int32) {i : Nat} (hi : i < 32) : bt (x <<< ((24 : Int32) &&& 31)) i = (decide (24 ≤ i) && bt x (i - 24)) := b_shl 24 (by omega) x hi
theorem b_sshr8 (x : Int32) {i : Nat} (hi : i < 32) : bt (x >>> ((8 : Int32) &&& 31)) i = if 8 + i < 32 then bt x (8 + i) else bt x 31 := b_sshr 8 (by omega) x hi
end
section
/-! the tree in prefix order: open places, ends, children -/
def dm_ar (k : Int32) : Nat := if k = 1 ∨ k = 2 then 0 else if k = 9 then 3 else if k = 11 ∨ k = 12 ∨ k = 13 then 1 else 2
theorem dm_ar3 (k : Int32) : dm_ar k ≤ 3 := by
  unfold dm_ar
  split
  · omega
  · split
    · omega
    · split <;> omega
def dm_O (kd : Nat → Int32) : Nat → Nat
  | 0 => 1
  | k + 1 => dm_O kd k + dm_ar (kd k) - 1
theorem dm_O0 (kd : Nat → Int32) : dm_O kd 0 = 1 := rfl
theorem dm_Os (kd : Nat → Int32) (k : Nat) : dm_O kd (k + 1) = dm_O kd k + dm_ar (kd k) - 1 := rfl
theorem dm_O_c {kd kd' : Nat → Int32} : ∀ n, (∀ j, j < n → kd j = kd' j) → dm_O kd n = dm_O kd' n := by
  intro n
  induction n with
  | zero => intro _; rfl
  | succ n ih =>
    intro h
    rw [dm_Os, dm_Os, ih (fun j hj => h j (by omega)), h n (by omega)]
theorem dm_O_b (kd : Nat → Int32) : ∀ n, dm_O kd n ≤ 2 * n + 1 := by
  intro n
  induction n with
  | zero => exact Nat.le_refl _
  | succ n ih =>
    have := dm_Os kd n
    have := dm_ar3 (kd n)
    omega
def dm_Tr (kd : Nat → Int32) (n : Nat) : Prop := (∀ k, k < n → 1 ≤ dm_O kd k) ∧ dm_O kd n = 0
def dm_En (kd : Nat → Int32) (i e : Nat) : Prop := i < e ∧ dm_O kd e + 1 = dm_O kd i ∧ ∀ k, i ≤ k → k < e → dm_O kd i ≤ dm_O kd k
theorem dm_Tr_pos {kd : Nat → Int32} {n : Nat} (T : dm_Tr kd n) : 0 < n := by
  rcases Nat.eq_zero_or_pos n with z | z
  · subst z
    have := T.2
    have := dm_O0 kd
    omega
  · exact z
theorem dm_En_u {kd : Nat → Int32} {i e e' : Nat} (h : dm_En kd i e) (h' : dm_En kd i e') : e = e' := by
  obtain ⟨a, b, c⟩ := h
  obtain ⟨a', b', c'⟩ := h'
  rcases Nat.lt_trichotomy e e' with z | z | z
  · have := c' e (by omega) z
    omega
  · exact z
  · have := c e' (by omega) z
    omega
theorem dm_En_x {kd : Nat → Int32} {n i : Nat} (T : dm_Tr kd n) (hi : i < n) : ∃ e, e ≤ n ∧ dm_En kd i e := by
  have hn : dm_O kd n < dm_O kd i := by
    have := T.1 i hi
    have := T.2
    omega
  obtain ⟨e, h0, h3⟩ := pk_least (fun k => i < k ∧ dm_O kd k < dm_O kd i) ⟨n, hi, hn⟩
  have h1 : i < e := h0.1
  have h2 : dm_O kd e < dm_O kd i := h0.2
  have h4 : ∀ j, j < e → ¬ (i < j ∧ dm_O kd j < dm_O kd i) := h3
  have hm : ∀ k, i ≤ k → k < e → dm_O kd i ≤ dm_O kd k := by
    intro k hk he
    rcases Nat.eq_or_lt_of_le hk with z | z
    · subst z
      exact Nat.le_refl _
    · exact Nat.le_of_not_lt (fun w => h4 k he ⟨z, w⟩)
  have hen : e ≤ n := Nat.le_of_not_lt (fun w => h4 n w ⟨hi, hn⟩)
  refine ⟨e, hen, h1, ?_, hm⟩
  obtain ⟨d, rfl⟩ : ∃ d, e = d + 1 := ⟨e - 1, by omega⟩
  have a1 := hm d (by omega) (by omega)
  have a2 := T.1 d (by omega)
  have a3 := dm_Os kd d
  omega
noncomputable def dm_E (kd : Nat → Int32) (i : Nat) : Nat := Classical.epsilon (fun e => dm_En kd i e)
section
variable {kd : Nat → Int32} {n i j p c t v : Nat}
theorem dm_E_s (T : dm_Tr kd n) (hi : i < n) : dm_En kd i (dm_E kd i) ∧ dm_E kd i ≤ n := by
  obtain ⟨e, he, h⟩ := dm_En_x T hi
  have h2 : dm_En kd i (dm_E kd i) := Classical.epsilon_spec (p := fun e => dm_En kd i e) ⟨e, h⟩
  refine ⟨h2, ?_⟩
  rw [dm_En_u h2 h]
  exact he
theorem dm_E_gt (T : dm_Tr kd n) (hi : i < n) : i < dm_E kd i := (dm_E_s T hi).1.1
theorem dm_E_le (T : dm_Tr kd n) (hi : i < n) : dm_E kd i ≤ n := (dm_E_s T hi).2
theorem dm_E_0 (T : dm_Tr kd n) : dm_E kd 0 = n := by
  have hn := dm_Tr_pos T
  refine dm_En_u (dm_E_s T hn).1 ⟨hn, ?_, fun k _ hk => ?_⟩
  · rw [T.2, dm_O0]
  · rw [dm_O0]
    exact T.1 k hk
def dm_Sw (kd : Nat → Int32) (i p c : Nat) : Prop := i < p ∧ dm_O kd p + 1 = dm_O kd i + c ∧ ∀ k, i ≤ k → k < p → dm_O kd i ≤ dm_O kd k
theorem dm_Sw0 (T : dm_Tr kd n) (hi : i < n) : dm_Sw kd i (i + 1) (dm_ar (kd i)) := by
  have h1 := T.1 i hi
  have h2 := dm_Os kd i
  refine ⟨by omega, by omega, fun k h1 h2 => ?_⟩
  have : k = i := by omega
  subst this
  exact Nat.le_refl _
theorem dm_Sw_lt (T : dm_Tr kd n) (hi : i < n) (h : dm_Sw kd i p (c + 1)) (hp : p ≤ n) : p < n := by
  rcases Nat.eq_or_lt_of_le hp with z | z
  · subst z
    have h1 := T.1 i hi
    have h2 := T.2
    have h3 := h.2.1
    omega
  · exact z
theorem dm_Sws (T : dm_Tr kd n) (hi : i < n) (h : dm_Sw kd i p (c + 1)) (hp : p < n) : dm_Sw kd i (dm_E kd p) c := by
  obtain ⟨⟨a1, a2, a3⟩, a4⟩ := dm_E_s T hp
  obtain ⟨b1, b2, b3⟩ := h
  refine ⟨by omega, by omega, fun k h1 h2 => ?_⟩
  rcases Nat.lt_or_ge k p with z | z
  · exact b3 k h1 z
  · have := a3 k z h2
    omega
theorem dm_Sw_E (T : dm_Tr kd n) (hi : i < n) (h : dm_Sw kd i p 0) : dm_E kd i = p := by
  have h1 := h.2.1
  exact dm_En_u (dm_E_s T hi).1 ⟨h.1, by omega, h.2.2⟩
noncomputable def dm_ch (kd : Nat → Int32) (i : Nat) : Nat → Nat
  | 0 => i + 1
  | c + 1 => dm_E kd (dm_ch kd i c)
theorem dm_ch0 (kd : Nat → Int32) (i : Nat) : dm_ch kd i 0 = i + 1 := rfl
theorem dm_chs (kd : Nat → Int32) (i c : Nat) : dm_ch kd i (c + 1) = dm_E kd (dm_ch kd i c) := rfl
theorem dm_ch_s (T : dm_Tr kd n) (hi : i < n) : ∀ c, c ≤ dm_ar (kd i) → dm_Sw kd i (dm_ch kd i c) (dm_ar (kd i) - c) ∧ dm_ch kd i c ≤ n := by
  intro c
  induction c with
  | zero =>
    intro _
    exact ⟨dm_Sw0 T hi, hi⟩
  | succ c ih =>
    intro hc
    obtain ⟨h1, h2⟩ := ih (by omega)
    have e : dm_ar (kd i) - c = (dm_ar (kd i) - (c + 1)) + 1 := by omega
    rw [e] at h1
    have h3 := dm_Sw_lt T hi h1 h2
    exact ⟨dm_Sws T hi h1 h3, (dm_E_s T h3).2⟩
theorem dm_ch_lt (T : dm_Tr kd n) (hi : i < n) (hc : c < dm_ar (kd i)) : dm_ch kd i c < n := by
  obtain ⟨h1, h2⟩ := dm_ch_s T hi c (by omega)
  have e : dm_ar (kd i) - c = (dm_ar (kd i) - (c + 1)) + 1 := by omega
  rw [e] at h1
  exact dm_Sw_lt T hi h1 h2
theorem dm_ch_gt (T : dm_Tr kd n) (hi : i < n) (hc : c ≤ dm_ar (kd i)) : i < dm_ch kd i c := (dm_ch_s T hi c hc).1.1
theorem dm_ch_E (T : dm_Tr kd n) (hi : i < n) : dm_E kd i = dm_ch kd i (dm_ar (kd i)) := by
  have h := (dm_ch_s T hi _ (Nat.le_refl _)).1
  rw [Nat.sub_self] at h
  exact dm_Sw_E T hi h
theorem dm_E_nest (T : dm_Tr kd n) (hi : i < n) (h1 : i ≤ j) (h2 : j < dm_E kd i) : dm_E kd j ≤ dm_E kd i := by
  have h3 := dm_E_le T hi
  have hj : j < n := by omega
  obtain ⟨⟨a1, a2, a3⟩, _⟩ := dm_E_s T hi
  obtain ⟨⟨b1, b2, b3⟩, _⟩ := dm_E_s T hj
  apply Nat.le_of_not_lt
  intro z
  have c1 := a3 j h1 h2
  have c2 := b3 (dm_E kd i) (by omega) z
  omega
theorem dm_ch_mono (T : dm_Tr kd n) (hi : i < n) : ∀ d c, c < d → d ≤ dm_ar (kd i) → dm_E kd (dm_ch kd i c) ≤ dm_ch kd i d := by
  intro d
  induction d with
  | zero => intro c h; omega
  | succ d ih =>
    intro c h1 h2
    rcases Nat.lt_or_ge c d with z | z
    · have a1 := ih c z (by omega)
      have a2 := dm_E_gt T (dm_ch_lt T hi (c := d) (by omega))
      rw [dm_chs]
      omega
    · have : c = d := by omega
      subst this
      exact Nat.le_refl _
theorem dm_ch_cov (T : dm_Tr kd n) (hi : i < n) : ∀ d, d ≤ dm_ar (kd i) → ∀ j, i < j → j < dm_ch kd i d → ∃ c, c < d ∧ dm_ch kd i c ≤ j ∧ j < dm_E kd (dm_ch kd i c) := by
  intro d
  induction d with
  | zero =>
    intro _ j h1 h2
    rw [dm_ch0] at h2
    omega
  | succ d ih =>
    intro hd j h1 h2
    rcases Nat.lt_or_ge j (dm_ch kd i d) with z | z
    · obtain ⟨c, g1, g2, g3⟩ := ih (by omega) j h1 z
      exact ⟨c, by omega, g2, g3⟩
    · exact ⟨d, by omega, z, h2⟩
theorem dm_cov (T : dm_Tr kd n) (hi : i < n) (h1 : i < j) (h2 : j < dm_E kd i) : ∃ c, c < dm_ar (kd i) ∧ dm_ch kd i c ≤ j ∧ j < dm_E kd (dm_ch kd i c) := by
  rw [dm_ch_E T hi] at h2
  exact dm_ch_cov T hi _ (Nat.le_refl _) j h1 h2
theorem dm_disj {d : Nat} (T : dm_Tr kd n) (hi : i < n) (hc : c < dm_ar (kd i)) (hd : d < dm_ar (kd i)) (h1 : dm_ch kd i c ≤ j) (h2 : j < dm_E kd (dm_ch kd i c)) (h3 : dm_ch kd i d ≤ j) (h4 : j < dm_E kd (dm_ch kd i d)) : c = d := by
  rcases Nat.lt_trichotomy c d with z | z | z
  · have := dm_ch_mono T hi d c z (by omega)
    omega
  · exact z
  · have := dm_ch_mono T hi c d z (by omega)
    omega
theorem dm_ch_in (T : dm_Tr kd n) (hi : i < n) (hc : c < dm_ar (kd i)) : dm_E kd (dm_ch kd i c) ≤ dm_E kd i := by
  rw [dm_ch_E T hi]
  exact dm_ch_mono T hi _ c hc (Nat.le_refl _)
def dm_Pa (kd : Nat → Int32) (p j : Nat) : Prop := p < j ∧ j < dm_E kd p ∧ ∀ q, p < q → q < j → dm_E kd q ≤ j
theorem dm_Pa_ch (T : dm_Tr kd n) (hj : j < n) (h : dm_Pa kd p j) : ∃ c, c < dm_ar (kd p) ∧ j = dm_ch kd p c := by
  have hp : p < n := by
    have := h.1
    omega
  obtain ⟨c, hc, h1, h2⟩ := dm_cov T hp h.1 h.2.1
  refine ⟨c, hc, ?_⟩
  rcases Nat.eq_or_lt_of_le h1 with z | z
  · exact z.symm
  · have := h.2.2 (dm_ch kd p c) (dm_ch_gt T hp (by omega)) z
    omega
theorem dm_ch_inj {d : Nat} (T : dm_Tr kd n) (hi : i < n) (hc : c < dm_ar (kd i)) (hd : d < dm_ar (kd i)) (h : dm_ch kd i c = dm_ch kd i d) : c = d := by
  have h1 := dm_E_gt T (dm_ch_lt T hi hc)
  exact dm_disj T hi hc hd (j := dm_ch kd i c) (Nat.le_refl _) h1 (by omega) (by rw [← h]; exact h1)
/-- name x is bound at the child c of p -/
def dm_bd (kd na nb : Nat → Int32) (p c : Nat) (x : Int32) : Prop := (kd p = 13 ∧ c = 0 ∧ na p = x) ∨ (kd p = 14 ∧ c = 1 ∧ na p = x) ∨ (kd p = 15 ∧ ((c = 0 ∧ (na p = x ∨ nb p = x)) ∨ (c = 1 ∧ na p = x)))
/-- no node from t down to v binds x on the way to v -/
def dm_UB (kd na nb : Nat → Int32) (n v t : Nat) (x : Int32) : Prop := ∀ p c, t ≤ p → p < n → c < dm_ar (kd p) → dm_ch kd p c ≤ v → v < dm_E kd (dm_ch kd p c) → ¬ dm_bd kd na nb p c x
theorem dm_UB_v {na nb : Nat → Int32} {x : Int32} (T : dm_Tr kd n) : dm_UB kd na nb n v v x := by
  intro p c h1 h2 h3 h4 _ _
  have := dm_ch_gt T h2 (Nat.le_of_lt h3)
  omega
theorem dm_UB_up {na nb : Nat → Int32} {x : Int32} (T : dm_Tr kd n) (ht : t < n) (hc : c < dm_ar (kd t)) (h1 : dm_ch kd t c ≤ v) (h2 : v < dm_E kd (dm_ch kd t c)) (h : dm_UB kd na nb n v (dm_ch kd t c) x) (hb : ¬ dm_bd kd na nb t c x) : dm_UB kd na nb n v t x := by
  intro p d hp hpn hd h3 h4
  rcases Nat.eq_or_lt_of_le hp with z | z
  · subst z
    have := dm_disj T ht hc hd h1 h2 h3 h4
    subst this
    exact hb
  · rcases Nat.lt_or_ge p (dm_ch kd t c) with w | w
    · exfalso
      obtain ⟨c', hc', g1, g2⟩ := dm_ch_cov T ht c (by omega) p z w
      have hcl : dm_ch kd t c' < n := dm_ch_lt T ht (by omega)
      have e1 := dm_E_nest T hcl g1 g2
      have e2 := dm_ch_mono T ht c c' hc' (by omega)
      have e3 := dm_ch_in T hpn hd
      omega
    · exact h p d w hpn hd h3 h4
theorem dm_UB_dn {na nb : Nat → Int32} {x : Int32} (T : dm_Tr kd n) (ht : t < n) (hc : c < dm_ar (kd t)) (h1 : dm_ch kd t c ≤ v) (h2 : v < dm_E kd (dm_ch kd t c)) (h : dm_UB kd na nb n v t x) : dm_UB kd na nb n v (dm_ch kd t c) x ∧ ¬ dm_bd kd na nb t c x := by
  refine ⟨fun p d hp => h p d ?_, h t c (Nat.le_refl _) ht hc h1 h2⟩
  have := dm_ch_gt T ht (Nat.le_of_lt hc)
  omega
/-- the masks of free names -/
def dm_FN (kd na nb : Nat → Int32) (n : Nat) (f : Nat → Int32) : Prop := ∀ i, i < n → ∀ x, x < 32 → (bt (f i) x = true ↔ ((kd i = 2 ∧ na i = nI x) ∨ ∃ c, c < dm_ar (kd i) ∧ bt (f (dm_ch kd i c)) x = true ∧ ¬ dm_bd kd na nb i c (nI x)))
theorem dm_FN_UB {na nb f : Nat → Int32} (T : dm_Tr kd n) (F : dm_FN kd na nb n f) : ∀ d t, t < n → n - t ≤ d → ∀ x, x < 32 → (bt (f t) x = true ↔ ∃ v, t ≤ v ∧ v < dm_E kd t ∧ kd v = 2 ∧ na v = nI x ∧ dm_UB kd na nb n v t (nI x)) := by
  intro d
  induction d with
  | zero => intro t h1 h2; omega
  | succ d ih =>
    intro t ht hd x hx
    rw [F t ht x hx]
    constructor
    · rintro (⟨h1, h2⟩ | ⟨c, hc, h1, h2⟩)
      · exact ⟨t, Nat.le_refl _, dm_E_gt T ht, h1, h2, dm_UB_v T⟩
      · have hcl := dm_ch_lt T ht hc
        have hcg := dm_ch_gt T ht (Nat.le_of_lt hc)
        obtain ⟨v, v1, v2, v3, v4, v5⟩ := (ih (dm_ch kd t c) hcl (by omega) x hx).mp h1
        have hin := dm_ch_in T ht hc
        exact ⟨v, by omega, by omega, v3, v4, dm_UB_up T ht hc v1 v2 v5 h2⟩
    · rintro ⟨v, v1, v2, v3, v4, v5⟩
      rcases Nat.eq_or_lt_of_le v1 with z | z
      · subst z
        exact Or.inl ⟨v3, v4⟩
      · obtain ⟨c, hc, g1, g2⟩ := dm_cov T ht z v2
        obtain ⟨u1, u2⟩ := dm_UB_dn T ht hc g1 g2 v5
        have hcl := dm_ch_lt T ht hc
        have hcg := dm_ch_gt T ht (Nat.le_of_lt hc)
        exact Or.inr ⟨c, hc, (ih (dm_ch kd t c) hcl (by omega) x hx).mpr ⟨v, g1, g2, v3, v4, u1⟩, u2⟩
theorem dm_FN_iff {na nb f : Nat → Int32} (T : dm_Tr kd n) (F : dm_FN kd na nb n f) {x : Nat} (ht : t < n) (hx : x < 32) : bt (f t) x = true ↔ ∃ v, t ≤ v ∧ v < dm_E kd t ∧ kd v = 2 ∧ na v = nI x ∧ dm_UB kd na nb n v t (nI x) := dm_FN_UB T F (n - t) t ht (Nat.le_refl _) x hx
end
/-! tags: how many lambdas stand before a node -/
def dm_cnt (kd : Nat → Int32) : Nat → Nat
  | 0 => 0
  | k + 1 => if kd k = 13 ∨ kd k = 15 then dm_cnt kd k + 1 else dm_cnt kd k
theorem dm_cnt_t {kd : Nat → Int32} {k : Nat} (h : kd k = 13 ∨ kd k = 15) : dm_cnt kd (k + 1) = dm_cnt kd k + 1 := if_pos h
theorem dm_cnt_f {kd : Nat → Int32} {k : Nat} (h : ¬ (kd k = 13 ∨ kd k = 15)) : dm_cnt kd (k + 1) = dm_cnt kd k := if_neg h
theorem dm_cnt_s (kd : Nat → Int32) (k : Nat) : dm_cnt kd k ≤ dm_cnt kd (k + 1) ∧ dm_cnt kd (k + 1) ≤ dm_cnt kd k + 1 := by
  by_cases h : kd k = 13 ∨ kd k = 15
  · rw [dm_cnt_t h]
    omega
  · rw [dm_cnt_f h]
    omega
theorem dm_cnt_le (kd : Nat → Int32) : ∀ k, dm_cnt kd k ≤ k := by
  intro k
  induction k with
  | zero => exact Nat.le_refl _
  | succ k ih =>
    have := dm_cnt_s kd k
    omega
theorem dm_cnt_mono (kd : Nat → Int32) (i : Nat) : ∀ d, dm_cnt kd i ≤ dm_cnt kd (i + d) := by
  intro d
  induction d with
  | zero => exact Nat.le_refl _
  | succ d ih =>
    have := dm_cnt_s kd (i + d)
    have e : i + (d + 1) = (i + d) + 1 := by omega
    rw [e]
    omega
theorem dm_cnt_m {kd : Nat → Int32} {i j : Nat} (h : i ≤ j) : dm_cnt kd i ≤ dm_cnt kd j := by
  obtain ⟨d, rfl⟩ : ∃ d, j = i + d := ⟨j - i, by omega⟩
  exact dm_cnt_mono kd i d
theorem dm_cnt_lt {kd : Nat → Int32} {i j : Nat} (h : i < j) (hl : kd i = 13 ∨ kd i = 15) : dm_cnt kd i < dm_cnt kd j := by
  have h1 := dm_cnt_m (kd := kd) (show i + 1 ≤ j from h)
  rw [dm_cnt_t hl] at h1
  omega
theorem dm_cnt_ex {kd : Nat → Int32} : ∀ n t, t < dm_cnt kd n → ∃ i, i < n ∧ (kd i = 13 ∨ kd i = 15) ∧ dm_cnt kd i = t := by
  intro n
  induction n with
  | zero =>
    intro t h
    exact absurd h (Nat.not_lt_zero t)
  | succ n ih =>
    intro t h
    by_cases hl : kd n = 13 ∨ kd n = 15
    · rw [dm_cnt_t hl] at h
      rcases Nat.eq_or_lt_of_le (show t ≤ dm_cnt kd n by omega) with z | z
      · exact ⟨n, by omega, hl, z.symm⟩
      · obtain ⟨i, h1, h2⟩ := ih t z
        exact ⟨i, by omega, h2⟩
    · rw [dm_cnt_f hl] at h
      obtain ⟨i, h1, h2⟩ := ih t h
      exact ⟨i, by omega, h2⟩
end
section
/-! X's values: one long, the kind above 32 bits of data -/
def dm_val (k d : Int32) : Int64 := (k.toInt64 <<< ((32 : Int32).toInt64 &&& 63)) ||| (d.toInt64 &&& 4294967295)
def dm_kof (v : Int64) : Int32 := ((v.toUInt64 >>> ((32 : Int32).toInt64.toUInt64 &&& Int64.toUInt64 63)).toInt64).toInt32
theorem dm_mask : ∀ i, i < 64 → (4294967295 : Int64).toBitVec.getLsbD i = decide (i < 32) := by decide +kernel
theorem dm_val_b (k d : Int32) (i : Nat) (hi : i < 64) : (dm_val k d).toBitVec.getLsbD i = if i < 32 then d.toBitVec.getLsbD i else k.toBitVec.getLsbD (i - 32) := by
  unfold dm_val
  rw [Int64.toBitVec_or, BitVec.getLsbD_or, Int64.toBitVec_and, BitVec.getLsbD_and, dm_mask i hi, Int64.toBitVec_shiftLeft]
  show ((k.toInt64.toBitVec <<< (((32 : Int32).toInt64 &&& 63).toBitVec.smod 64).toNat).getLsbD i || _) = _
  rw [show (((32 : Int32).toInt64 &&& 63).toBitVec.smod 64).toNat = 32 by decide, BitVec.getLsbD_shiftLeft, Int32.toBitVec_toInt64, Int32.toBitVec_toInt64, BitVec.getLsbD_signExtend, BitVec.getLsbD_signExtend]
  by_cases h : i < 32
  · simp [h, hi]
  · have h2 : i - 32 < 32 := by omega
    have h3 : i - 32 < 64 := by omega
    simp [h, hi, h2, h3]
theorem dm_val_d (k d : Int32) : (dm_val k d).toInt32 = d := by
  apply Int32.toBitVec_inj.mp
  apply BitVec.eq_of_getLsbD_eq
  intro i hi
  rw [Int64.toBitVec_toInt32, BitVec.getLsbD_signExtend, dm_val_b k d i (by omega), if_pos hi, if_pos (show i < 64 by omega)]
  simp [hi]
theorem dm_val_k (k d : Int32) : dm_kof (dm_val k d) = k := by
  apply Int32.toBitVec_inj.mp
  apply BitVec.eq_of_getLsbD_eq
  intro i hi
  unfold dm_kof
  rw [Int64.toBitVec_toInt32, BitVec.getLsbD_signExtend, if_pos (show i < 64 by omega)]
  show (decide (i < 32) && ((dm_val k d).toUInt64 >>> ((32 : Int32).toInt64.toUInt64 &&& Int64.toUInt64 63)).toBitVec.getLsbD i) = _
  rw [UInt64.toBitVec_shiftRight]
  show (decide (i < 32) && ((dm_val k d).toBitVec >>> (((32 : Int32).toInt64.toUInt64 &&& Int64.toUInt64 63).toBitVec % 64).toNat).getLsbD i) = _
  rw [show (((32 : Int32).toInt64.toUInt64 &&& Int64.toUInt64 63).toBitVec % 64).toNat = 32 by decide, BitVec.getLsbD_ushiftRight, dm_val_b k d (32 + i) (by omega), if_neg (by omega), Nat.add_sub_cancel_left]
  simp [hi]
theorem dm_kof0 : dm_kof 0 = 0 := by decide
end
section
/-! the world of a run: Y's heap cell c stands for X's value m c; Y's environment e (0: none, j + 1: entry j) finds the cell L e x - 1 for the name x -/
def dm_eI (e : Nat) : Int32 := nI e - 1
theorem dm_eI0 : dm_eI 0 = -1 := by decide
theorem dm_eIs (j : Nat) : dm_eI (j + 1) = nI j := nI_pred j
def dm_EO (hp : Nat) (m : Nat → Int64) (Le : Nat → Nat) (bs : Nat → Int64) (W : Nat → Prop) : Prop := ∀ x, x < 8 → W x → ∃ c, c < hp ∧ Le x = c + 1 ∧ bs x = m c
section
variable {hp hp' c0 y : Nat} {m m' bs bs' : Nat → Int64} {Le Le' : Nat → Nat} {W W' : Nat → Prop}
theorem dm_EO_w (h : dm_EO hp m Le bs W) (hw : ∀ x, x < 8 → W' x → W x) : dm_EO hp m Le bs W' := fun x hx w => h x hx (hw x hx w)
theorem dm_EO_x (h : dm_EO hp m Le bs W) (h1 : hp ≤ hp') (h2 : ∀ c, c < hp → m' c = m c) (h3 : ∀ x, x < 8 → Le' x = Le x) (h4 : ∀ x, x < 8 → bs' x = bs x) : dm_EO hp' m' Le' bs' W := by
  intro x hx w
  obtain ⟨c, c1, c2, c3⟩ := h x hx w
  exact ⟨c, by omega, by rw [h3 x hx, c2], by rw [h4 x hx, c3, h2 c c1]⟩
theorem dm_EO_b (h : dm_EO hp m Le bs (fun x => W x ∧ x ≠ y)) (hc : c0 < hp) (h3 : ∀ x, x < 8 → Le' x = if x = y then c0 + 1 else Le x) (h4 : ∀ x, x < 8 → bs' x = if x = y then m c0 else bs x) : dm_EO hp m Le' bs' W := by
  intro x hx w
  by_cases e : x = y
  · exact ⟨c0, hc, by rw [h3 x hx, if_pos e], by rw [h4 x hx, if_pos e]⟩
  · obtain ⟨c, c1, c2, c3⟩ := h x hx ⟨w, e⟩
    exact ⟨c, c1, by rw [h3 x hx, if_neg e, c2], by rw [h4 x hx, if_neg e, c3]⟩
end
/-- what is free in the lambda l -/
def dm_LW (kd na nb f : Nat → Int32) (l x : Nat) : Prop := bt (f (l + 1)) x = true ∧ ¬ dm_bd kd na nb l 0 (nI x)
/-- the cell c of Y's heap -/
def dm_HC (kd na nb f : Nat → Int32) (n hp ep un : Nat) (m : Nat → Int64) (L : Nat → Nat → Nat) (bo : Nat → Int64) (vK vA vB : Nat → Int32) (pF pS : Nat → Int64) (cT cB : Nat → Int32) (c : Nat) : Prop :=
  (vK c = 1 ∧ m c = dm_val 1 (vA c)) ∨
  (vK c = 2 ∧ ∃ p a b, 1 ≤ p ∧ p ≤ un ∧ a < c ∧ b < c ∧ m c = dm_val 2 (nI p) ∧ vA c = nI a ∧ vB c = nI b ∧ pF p = m a ∧ pS p = m b) ∨
  (vK c = 3 ∧ ∃ p l e s, 1 ≤ p ∧ p ≤ un ∧ l < n ∧ (kd l = 13 ∨ kd l = 15) ∧ e ≤ ep ∧ s ≤ un ∧ m c = dm_val 3 (nI p) ∧ vA c = nI l ∧ vB c = dm_eI e ∧ cT p = nI (dm_cnt kd l) ∧ cB p = nI s ∧ dm_EO hp m (L e) (fun x => bo (s * 8 + x)) (dm_LW kd na nb f l))
section
variable {kd na nb f : Nat → Int32} {n hp ep un hp' ep' un' : Nat} {m m' bo bo' : Nat → Int64} {L L' : Nat → Nat → Nat} {vK vA vB vK' vA' vB' : Nat → Int32} {pF pS pF' pS' : Nat → Int64} {cT cB cT' cB' : Nat → Int32}
/-- what an extension keeps -/
def dm_Ex (hp ep un hp' ep' un' : Nat) (m m' bo bo' : Nat → Int64) (L L' : Nat → Nat → Nat) : Prop := hp ≤ hp' ∧ ep ≤ ep' ∧ un ≤ un' ∧ (∀ c, c < hp → m' c = m c) ∧ (∀ k, k < (un + 1) * 8 → bo' k = bo k) ∧ (∀ e, e ≤ ep → ∀ x, x < 8 → L' e x = L e x)
theorem dm_Ex_r : dm_Ex hp ep un hp ep un m m bo bo L L := ⟨Nat.le_refl _, Nat.le_refl _, Nat.le_refl _, fun _ _ => rfl, fun _ _ => rfl, fun _ _ _ _ => rfl⟩
theorem dm_EO_e {e s : Nat} {W : Nat → Prop} (X : dm_Ex hp ep un hp' ep' un' m m' bo bo' L L') (he : e ≤ ep) (hs : s ≤ un) (h : dm_EO hp m (L e) (fun x => bo (s * 8 + x)) W) : dm_EO hp' m' (L' e) (fun x => bo' (s * 8 + x)) W :=
  dm_EO_x h X.1 X.2.2.2.1 (fun x hx => X.2.2.2.2.2 e he x hx) (fun x hx => X.2.2.2.2.1 _ (by omega))
theorem dm_HC_x {c : Nat} (X : dm_Ex hp ep un hp' ep' un' m m' bo bo' L L') (hc : c < hp) (e1 : vK' c = vK c) (e2 : vA' c = vA c) (e3 : vB' c = vB c) (e4 : ∀ p, p ≤ un → pF' p = pF p) (e5 : ∀ p, p ≤ un → pS' p = pS p) (e6 : ∀ p, p ≤ un → cT' p = cT p) (e7 : ∀ p, p ≤ un → cB' p = cB p)
    (h : dm_HC kd na nb f n hp ep un m L bo vK vA vB pF pS cT cB c) : dm_HC kd na nb f n hp' ep' un' m' L' bo' vK' vA' vB' pF' pS' cT' cB' c := by
  obtain ⟨x1, x2, x3, x4, x5, x6⟩ := id X
  rcases h with ⟨h1, h2⟩ | ⟨h1, p, a, b, h2, h3, h4, h5, h6, h7, h8, h9, h10⟩ | ⟨h1, p, l, e, s, h2, h3, h4, h5, h6, h7, h8, h9, h10, h11, h12, h13⟩
  · exact Or.inl ⟨by rw [e1, h1], by rw [x4 c hc, e2, h2]⟩
  · exact Or.inr (Or.inl ⟨by rw [e1, h1], p, a, b, h2, by omega, h4, h5, by rw [x4 c hc, h6], by rw [e2, h7], by rw [e3, h8], by rw [e4 p h3, h9, x4 a (by omega)], by rw [e5 p h3, h10, x4 b (by omega)]⟩)
  · exact Or.inr (Or.inr ⟨by rw [e1, h1], p, l, e, s, h2, by omega, h4, h5, by omega, by omega, by rw [x4 c hc, h8], by rw [e2, h9], by rw [e3, h10], by rw [e6 p h3, h11], by rw [e7 p h3, h12], dm_EO_e X h6 h7 h13⟩)
end
/-- Y's table of bindings -/
def dm_LK (L : Nat → Nat → Nat) (hp ep : Nat) (eN eV eX : Nat → Int32) : Prop := (∀ x, L 0 x = 0) ∧ ∀ j, j < ep → ∃ y q c, y < 8 ∧ q ≤ j ∧ c < hp ∧ eN j = nI y ∧ eV j = nI c ∧ eX j = dm_eI q ∧ ∀ x, x < 8 → L (j + 1) x = if x = y then c + 1 else L q x
section
variable {hp hp' ep : Nat} {L : Nat → Nat → Nat} {eN eV eX : Nat → Int32}
theorem dm_LK_h (h : dm_LK L hp ep eN eV eX) (h1 : hp ≤ hp') : dm_LK L hp' ep eN eV eX := by
  refine ⟨h.1, fun j hj => ?_⟩
  obtain ⟨y, q, c, g1, g2, g3, g4⟩ := h.2 j hj
  exact ⟨y, q, c, g1, g2, by omega, g4⟩
/-- one more binding of y to the cell c, before the environment q -/
def dm_Ls (L : Nat → Nat → Nat) (ep y c q : Nat) : Nat → Nat → Nat := fun e x => if e = ep + 1 then (if x = y then c + 1 else L q x) else L e x
theorem dm_Ls_o {y c q e x : Nat} (h : e ≤ ep) : dm_Ls L ep y c q e x = L e x := if_neg (by omega)
theorem dm_Ls_n {y c q x : Nat} : dm_Ls L ep y c q (ep + 1) x = if x = y then c + 1 else L q x := if_pos rfl
theorem dm_LK_b {y c q : Nat} (h : dm_LK L hp ep eN eV eX) (hy : y < 8) (hc : c < hp) (hq : q ≤ ep) : dm_LK (dm_Ls L ep y c q) hp (ep + 1) (upd eN ep (nI y)) (upd eV ep (nI c)) (upd eX ep (dm_eI q)) := by
  refine ⟨fun x => ?_, fun j hj => ?_⟩
  · rw [dm_Ls_o (by omega)]
    exact h.1 x
  · rcases Nat.eq_or_lt_of_le (show j ≤ ep by omega) with z | z
    · subst z
      exact ⟨y, q, c, hy, hq, hc, pk_us, pk_us, pk_us, fun x _ => by rw [dm_Ls_n, dm_Ls_o hq]⟩
    · obtain ⟨y', q', c', g1, g2, g3, g4, g5, g6, g7⟩ := h.2 j z
      refine ⟨y', q', c', g1, g2, g3, ?_, ?_, ?_, fun x hx => ?_⟩
      · rw [pk_un (by omega), g4]
      · rw [pk_un (by omega), g5]
      · rw [pk_un (by omega), g6]
      · rw [dm_Ls_o (by omega), dm_Ls_o (by omega), g7 x hx]
end
/-! the two stacks -/
def dm_kF (k : Int32) : Prop := k = 3 ∨ k = 4 ∨ k = 5 ∨ k = 6 ∨ k = 7 ∨ k = 8 ∨ k = 9 ∨ k = 10 ∨ k = 11 ∨ k = 12 ∨ k = 14 ∨ k = 16
def dm_kS (k : Int32) : Prop := k = 3 ∨ k = 4 ∨ k = 5 ∨ k = 6 ∨ k = 7 ∨ k = 8 ∨ k = 10 ∨ k = 16
def dm_kT (k s : Int32) : Prop := (k = 9 ∧ s = 2) ∨ (k = 14 ∧ s = 2) ∨ (k = 15 ∧ s = 1)
section
variable (kd f : Nat → Int32) (n hp ep un : Nat) (m : Nat → Int64) (L : Nat → Nat → Nat) (bo : Nat → Int64) (fN fS fE fV wN wF wB : Nat → Int32) (wV : Nat → Int64)
/-- Y's j frames against X's w waiting nodes, a of them for a body; p: what their work may still cost -/
def dm_St : Nat → Nat → Nat → Nat → Prop
  | 0 => fun w a p => w = 0 ∧ a = 0 ∧ p = 0
  | j + 1 => fun w a p => ∃ i, i < n ∧ fN j = nI i ∧
    ((∃ p', dm_kT (kd i) (fS j) ∧ j ≤ 32 * a + i ∧ p = p' + 1 ∧ dm_St j w a p') ∨
     (∃ w' a' p', w = w' + 1 ∧ a = a' + 1 ∧ p = p' + 1 ∧ kd i = 16 ∧ fS j = 3 ∧ wN w' = nI i ∧ wF w' = 2 ∧ j ≤ 32 * a' + i ∧ dm_St j w' a' p') ∨
     (∃ w' p' e s, w = w' + 1 ∧ p = p' + 7 + 8 * (dm_E kd i - dm_E kd (i + 1)) ∧ fS j = 1 ∧ dm_kF (kd i) ∧ wN w' = nI i ∧ wF w' = 0 ∧ fE j = dm_eI e ∧ wB w' = nI s ∧ e ≤ ep ∧ s ≤ un ∧ dm_EO hp m (L e) (fun x => bo (s * 8 + x)) (fun x => bt (f i) x = true) ∧ j ≤ 32 * a + i ∧ dm_St j w' a p') ∨
     (∃ w' p' c, w = w' + 1 ∧ p = p' + 6 ∧ fS j = 2 ∧ dm_kS (kd i) ∧ wN w' = nI i ∧ wF w' = 1 ∧ c < hp ∧ fV j = nI c ∧ wV w' = m c ∧ j ≤ 32 * a + i ∧ dm_St j w' a p'))
end
section
variable {kd f : Nat → Int32} {n hp ep un hp' ep' un' : Nat} {m m' : Nat → Int64} {L L' : Nat → Nat → Nat} {bo bo' : Nat → Int64} {fN fS fE fV wN wF wB fN' fS' fE' fV' wN' wF' wB' : Nat → Int32} {wV wV' : Nat → Int64}
theorem dm_St_x (X : dm_Ex hp ep un hp' ep' un' m m' bo bo' L L') : ∀ j w a p, (∀ i, i < j → fN' i = fN i ∧ fS' i = fS i ∧ fE' i = fE i ∧ fV' i = fV i) → (∀ i, i < w → wN' i = wN i ∧ wF' i = wF i ∧ wB' i = wB i ∧ wV' i = wV i) →
    dm_St kd f n hp ep un m L bo fN fS fE fV wN wF wB wV j w a p → dm_St kd f n hp' ep' un' m' L' bo' fN' fS' fE' fV' wN' wF' wB' wV' j w a p := by
  intro j
  induction j with
  | zero => intro w a p _ _ h; exact h
  | succ j ih =>
    intro w a p hY hX h
    obtain ⟨x1, x2, x3, x4, x5, x6⟩ := id X
    obtain ⟨y1, y2, y3, y4⟩ := hY j (by omega)
    have hY' : ∀ i, i < j → fN' i = fN i ∧ fS' i = fS i ∧ fE' i = fE i ∧ fV' i = fV i := fun i hi => hY i (by omega)
    obtain ⟨i, hi, h0, h⟩ := h
    refine ⟨i, hi, by rw [y1, h0], ?_⟩
    rcases h with ⟨p', h1, h2, h3, h4⟩ | ⟨w', a', p', h1, h2, h3, h4, h5, h6, h7, h8, h9⟩ | ⟨w', p', e, s, h1, h2, h3, h4, h5, h6, h7, h8, h9, h10, h11, h12, h13⟩ | ⟨w', p', c, h1, h2, h3, h4, h5, h6, h7, h8, h9, h10, h11⟩
    · exact Or.inl ⟨p', by rw [y2]; exact h1, h2, h3, ih w a p' hY' hX h4⟩
    · obtain ⟨z1, z2, z3, z4⟩ := hX w' (by omega)
      exact Or.inr (Or.inl ⟨w', a', p', h1, h2, h3, h4, by rw [y2, h5], by rw [z1, h6], by rw [z2, h7], h8, ih w' a' p' hY' (fun i hi => hX i (by omega)) h9⟩)
    · obtain ⟨z1, z2, z3, z4⟩ := hX w' (by omega)
      exact Or.inr (Or.inr (Or.inl ⟨w', p', e, s, h1, h2, by rw [y2, h3], h4, by rw [z1, h5], by rw [z2, h6], by rw [y3, h7], by rw [z3, h8], by omega, by omega, dm_EO_e X h9 h10 h11, h12, ih w' a p' hY' (fun i hi => hX i (by omega)) h13⟩))
    · obtain ⟨z1, z2, z3, z4⟩ := hX w' (by omega)
      exact Or.inr (Or.inr (Or.inr ⟨w', p', c, h1, h2, by rw [y2, h3], h4, by rw [z1, h5], by rw [z2, h6], by omega, by rw [y4, h8], by rw [z4, h9, x4 c h7], h10, ih w' a p' hY' (fun i hi => hX i (by omega)) h11⟩))
theorem dm_St_le : ∀ j w a p, dm_St kd f n hp ep un m L bo fN fS fE fV wN wF wB wV j w a p → w ≤ j := by
  intro j
  induction j with
  | zero => intro w a p h; exact Nat.le_of_eq h.1
  | succ j ih =>
    intro w a p h
    obtain ⟨i, hi, h0, h⟩ := h
    rcases h with ⟨p', h1, h2, h3, h4⟩ | ⟨w', a', p', h1, h2, h3, h4, h5, h6, h7, h8, h9⟩ | ⟨w', p', e, s, h1, h2, h3, h4, h5, h6, h7, h8, h9, h10, h11, h12, h13⟩ | ⟨w', p', c, h1, h2, h3, h4, h5, h6, h7, h8, h9, h10, h11⟩
    · have := ih _ _ _ h4
      omega
    · have := ih _ _ _ h9
      omega
    · have := ih _ _ _ h13
      omega
    · have := ih _ _ _ h11
      omega
end
end
section
/-! how the world grows -/
section
variable {kd na nb f : Nat → Int32} {n B hp ep un : Nat} {m bo : Nat → Int64} {L : Nat → Nat → Nat} {vK vA vB : Nat → Int32} {pF pS : Nat → Int64} {cT cB eN eV eX : Nat → Int32}
theorem dm_Ex_t {hp ep un hp1 ep1 un1 hp2 ep2 un2 : Nat} {m m1 m2 bo bo1 bo2 : Nat → Int64} {L L1 L2 : Nat → Nat → Nat} (h : dm_Ex hp ep un hp1 ep1 un1 m m1 bo bo1 L L1) (g : dm_Ex hp1 ep1 un1 hp2 ep2 un2 m1 m2 bo1 bo2 L1 L2) : dm_Ex hp ep un hp2 ep2 un2 m m2 bo bo2 L L2 := by
  obtain ⟨h1, h2, h3, h4, h5, h6⟩ := h
  obtain ⟨g1, g2, g3, g4, g5, g6⟩ := g
  refine ⟨by omega, by omega, by omega, fun c hc => ?_, fun k hk => ?_, fun e he x hx => ?_⟩
  · rw [g4 c (by omega), h4 c hc]
  · rw [g5 k (by omega), h5 k hk]
  · rw [g6 e (by omega) x hx, h6 e he x hx]
def dm_Wd (kd na nb f : Nat → Int32) (n B hp ep un : Nat) (m : Nat → Int64) (L : Nat → Nat → Nat) (bo : Nat → Int64) (vK vA vB : Nat → Int32) (pF pS : Nat → Int64) (cT cB eN eV eX : Nat → Int32) : Prop :=
  (∀ c, c < hp → dm_HC kd na nb f n hp ep un m L bo vK vA vB pF pS cT cB c) ∧ dm_LK L hp ep eN eV eX ∧ ep ≤ 2 * un ∧ un ≤ B
theorem dm_Wd_unit {bo' pF' pS' : Nat → Int64} {cT' cB' : Nat → Int32} (h : dm_Wd kd na nb f n B hp ep un m L bo vK vA vB pF pS cT cB eN eV eX) (hB : un < B) (e1 : ∀ k, k < (un + 1) * 8 → bo' k = bo k) (e4 : ∀ p, p ≤ un → pF' p = pF p) (e5 : ∀ p, p ≤ un → pS' p = pS p) (e6 : ∀ p, p ≤ un → cT' p = cT p) (e7 : ∀ p, p ≤ un → cB' p = cB p) :
    dm_Ex hp ep un hp ep (un + 1) m m bo bo' L L ∧ dm_Wd kd na nb f n B hp ep (un + 1) m L bo' vK vA vB pF' pS' cT' cB' eN eV eX := by
  have X : dm_Ex hp ep un hp ep (un + 1) m m bo bo' L L := ⟨Nat.le_refl _, Nat.le_refl _, by omega, fun _ _ => rfl, e1, fun _ _ _ _ => rfl⟩
  obtain ⟨h1, h2, h3, h4⟩ := h
  exact ⟨X, fun c hc => dm_HC_x X hc rfl rfl rfl e4 e5 e6 e7 (h1 c hc), h2, by omega, by omega⟩
theorem dm_Wd_cell {k x y : Int32} {v : Int64} (h : dm_Wd kd na nb f n B hp ep un m L bo vK vA vB pF pS cT cB eN eV eX) (hc : dm_HC kd na nb f n (hp + 1) ep un (vp_updL m hp v) L bo (upd vK hp k) (upd vA hp x) (upd vB hp y) pF pS cT cB hp) :
    dm_Ex hp ep un (hp + 1) ep un m (vp_updL m hp v) bo bo L L ∧ dm_Wd kd na nb f n B (hp + 1) ep un (vp_updL m hp v) L bo (upd vK hp k) (upd vA hp x) (upd vB hp y) pF pS cT cB eN eV eX := by
  have X : dm_Ex hp ep un (hp + 1) ep un m (vp_updL m hp v) bo bo L L := ⟨by omega, Nat.le_refl _, Nat.le_refl _, fun c hc => pk_uLn (by omega), fun _ _ => rfl, fun _ _ _ _ => rfl⟩
  obtain ⟨h1, h2, h3, h4⟩ := h
  refine ⟨X, fun c hc' => ?_, dm_LK_h h2 (by omega), h3, h4⟩
  rcases Nat.eq_or_lt_of_le (show c ≤ hp by omega) with z | z
  · subst z
    exact hc
  · exact dm_HC_x X z (pk_un (by omega)) (pk_un (by omega)) (pk_un (by omega)) (fun _ _ => rfl) (fun _ _ => rfl) (fun _ _ => rfl) (fun _ _ => rfl) (h1 c z)
theorem dm_Wd_env {y c q : Nat} (h : dm_Wd kd na nb f n B hp ep un m L bo vK vA vB pF pS cT cB eN eV eX) (hy : y < 8) (hc : c < hp) (hq : q ≤ ep) (he : ep + 1 ≤ 2 * un) :
    dm_Ex hp ep un hp (ep + 1) un m m bo bo L (dm_Ls L ep y c q) ∧ dm_Wd kd na nb f n B hp (ep + 1) un m (dm_Ls L ep y c q) bo vK vA vB pF pS cT cB (upd eN ep (nI y)) (upd eV ep (nI c)) (upd eX ep (dm_eI q)) := by
  have X : dm_Ex hp ep un hp (ep + 1) un m m bo bo L (dm_Ls L ep y c q) := ⟨Nat.le_refl _, by omega, Nat.le_refl _, fun _ _ => rfl, fun _ _ => rfl, fun e he x hx => dm_Ls_o he⟩
  obtain ⟨h1, h2, h3, h4⟩ := h
  exact ⟨X, fun c hc => dm_HC_x X hc rfl rfl rfl (fun _ _ => rfl) (fun _ _ => rfl) (fun _ _ => rfl) (fun _ _ => rfl) (h1 c hc), dm_LK_b h2 hy hc hq, he, h4⟩
theorem dm_Wd_int (h : dm_Wd kd na nb f n B hp ep un m L bo vK vA vB pF pS cT cB eN eV eX) (z y : Int32) :
    dm_Ex hp ep un (hp + 1) ep un m (vp_updL m hp (dm_val 1 z)) bo bo L L ∧ dm_Wd kd na nb f n B (hp + 1) ep un (vp_updL m hp (dm_val 1 z)) L bo (upd vK hp 1) (upd vA hp z) (upd vB hp y) pF pS cT cB eN eV eX :=
  dm_Wd_cell h (Or.inl ⟨pk_us, by rw [pk_uLs, pk_us]⟩)
theorem dm_Wd_pair {a b : Nat} (h : dm_Wd kd na nb f n B hp ep un m L bo vK vA vB pF pS cT cB eN eV eX) (hB : un < B) (ha : a < hp) (hb : b < hp) :
    dm_Ex hp ep un (hp + 1) ep (un + 1) m (vp_updL m hp (dm_val 2 (nI (un + 1)))) bo bo L L ∧ dm_Wd kd na nb f n B (hp + 1) ep (un + 1) (vp_updL m hp (dm_val 2 (nI (un + 1)))) L bo (upd vK hp 2) (upd vA hp (nI a)) (upd vB hp (nI b)) (vp_updL pF (un + 1) (m a)) (vp_updL pS (un + 1) (m b)) cT cB eN eV eX := by
  obtain ⟨X, g⟩ := dm_Wd_unit (bo' := bo) (pF' := vp_updL pF (un + 1) (m a)) (pS' := vp_updL pS (un + 1) (m b)) (cT' := cT) (cB' := cB) h hB (fun _ _ => rfl) (fun p hp => pk_uLn (by omega)) (fun p hp => pk_uLn (by omega)) (fun _ _ => rfl) (fun _ _ => rfl)
  obtain ⟨Y, g2⟩ := dm_Wd_cell (k := 2) (x := nI a) (y := nI b) (v := dm_val 2 (nI (un + 1))) g
    (Or.inr (Or.inl ⟨pk_us, un + 1, a, b, by omega, by omega, ha, hb, pk_uLs, pk_us, pk_us, by rw [pk_uLs, pk_uLn (by omega)], by rw [pk_uLs, pk_uLn (by omega)]⟩))
  exact ⟨dm_Ex_t X Y, g2⟩
/-- a closure of the lambda l; its set of bindings is s, and the unit's own set may be written -/
theorem dm_Wd_fun {l e s : Nat} {bo' : Nat → Int64} (h : dm_Wd kd na nb f n B hp ep un m L bo vK vA vB pF pS cT cB eN eV eX) (hB : un < B) (hl : l < n) (hk : kd l = 13 ∨ kd l = 15) (he : e ≤ ep) (hs : s ≤ un) (e1 : ∀ k, k < (un + 1) * 8 → bo' k = bo k) (hE : dm_EO hp m (L e) (fun x => bo (s * 8 + x)) (dm_LW kd na nb f l)) :
    dm_Ex hp ep un (hp + 1) ep (un + 1) m (vp_updL m hp (dm_val 3 (nI (un + 1)))) bo bo' L L ∧ dm_Wd kd na nb f n B (hp + 1) ep (un + 1) (vp_updL m hp (dm_val 3 (nI (un + 1)))) L bo' (upd vK hp 3) (upd vA hp (nI l)) (upd vB hp (dm_eI e)) pF pS (upd cT (un + 1) (nI (dm_cnt kd l))) (upd cB (un + 1) (nI s)) eN eV eX := by
  obtain ⟨X, g⟩ := dm_Wd_unit (bo' := bo') (pF' := pF) (pS' := pS) (cT' := upd cT (un + 1) (nI (dm_cnt kd l))) (cB' := upd cB (un + 1) (nI s)) h hB e1 (fun _ _ => rfl) (fun _ _ => rfl) (fun p hp => pk_un (by omega)) (fun p hp => pk_un (by omega))
  have Y : dm_Ex hp ep (un + 1) (hp + 1) ep (un + 1) m (vp_updL m hp (dm_val 3 (nI (un + 1)))) bo' bo' L L := ⟨by omega, Nat.le_refl _, Nat.le_refl _, fun c hc => pk_uLn (by omega), fun _ _ => rfl, fun _ _ _ _ => rfl⟩
  have hE2 := dm_EO_e (dm_Ex_t X Y) he hs hE
  obtain ⟨Y, g2⟩ := dm_Wd_cell (k := 3) (x := nI l) (y := dm_eI e) (v := dm_val 3 (nI (un + 1))) g
    (Or.inr (Or.inr ⟨pk_us, un + 1, l, e, s, by omega, by omega, hl, hk, he, by omega, pk_uLs, pk_us, pk_us, pk_us, pk_us, hE2⟩))
  exact ⟨dm_Ex_t X Y, g2⟩
end
end
section
/-! X's copies of binding sets -/
def dm_cp (bo : Nat → Int64) (s t j : Nat) : Nat → Int64 := fun k => if t * 8 ≤ k ∧ k < t * 8 + j then bo (s * 8 + (k - t * 8)) else bo k
theorem dm_cp0 (bo : Nat → Int64) (s t : Nat) : dm_cp bo s t 0 = bo := by
  funext k
  exact if_neg (by omega)
theorem dm_cps {bo : Nat → Int64} {s t j : Nat} (h : s < t) (hj : j < 8) : vp_updL (dm_cp bo s t j) (t * 8 + j) (dm_cp bo s t j (s * 8 + j)) = dm_cp bo s t (j + 1) := by
  have e : dm_cp bo s t j (s * 8 + j) = bo (s * 8 + j) := if_neg (by omega)
  rw [e]
  funext k
  by_cases z : k = t * 8 + j
  · subst z
    rw [pk_uLs]
    have g : dm_cp bo s t (j + 1) (t * 8 + j) = bo (s * 8 + (t * 8 + j - t * 8)) := if_pos (by omega)
    rw [g, Nat.add_sub_cancel_left]
  · rw [pk_uLn z]
    by_cases w : t * 8 ≤ k ∧ k < t * 8 + j
    · have g1 : dm_cp bo s t j k = bo (s * 8 + (k - t * 8)) := if_pos w
      have g2 : dm_cp bo s t (j + 1) k = bo (s * 8 + (k - t * 8)) := if_pos (by omega)
      rw [g1, g2]
    · have g1 : dm_cp bo s t j k = bo k := if_neg w
      have g2 : dm_cp bo s t (j + 1) k = bo k := if_neg (by omega)
      rw [g1, g2]
theorem dm_cp_lo {bo : Nat → Int64} {s t k : Nat} (h : k < t * 8) : dm_cp bo s t 8 k = bo k := if_neg (by omega)
theorem dm_cp_in {bo : Nat → Int64} {s t x : Nat} (h : x < 8) : dm_cp bo s t 8 (t * 8 + x) = bo (s * 8 + x) := by
  have g : dm_cp bo s t 8 (t * 8 + x) = bo (s * 8 + (t * 8 + x - t * 8)) := if_pos (by omega)
  rw [g, Nat.add_sub_cancel_left]
theorem dm_b1_lo {bo : Nat → Int64} {t y k : Nat} {v : Int64} (h : k < t * 8) : vp_updL bo (t * 8 + y) v k = bo k := pk_uLn (by omega)
theorem dm_b1_in {bo : Nat → Int64} {t y x : Nat} {v : Int64} : vp_updL bo (t * 8 + y) v (t * 8 + x) = if x = y then v else bo (t * 8 + x) := by
  by_cases e : x = y
  · subst e
    rw [pk_uLs, if_pos rfl]
  · rw [pk_uLn (by omega), if_neg e]
end
section
/-! the relation -/
def dm_Pg (kd na nb : Nat → Int32) (n : Nat) : Prop := n ≤ 32 ∧ (∀ k, k < n → 1 ≤ dm_O kd k) ∧ ∀ k, k < n → (∃ q, 1 ≤ q ∧ q ≤ 16 ∧ kd k = nI q) ∧ (kd k = 2 ∨ kd k = 13 ∨ kd k = 14 ∨ kd k = 15 → ∃ y, y < 8 ∧ na k = nI y) ∧ (kd k = 15 → ∃ y, y < 8 ∧ nb k = nI y)
def dm_Cp (kd na nb se fn tg tn : Nat → Int32) (n : Nat) : Prop := dm_O kd n = 0 ∧ (∀ i, i < n → se i = nI (dm_E kd i)) ∧ dm_FN kd na nb n fn ∧ fn 0 = 0 ∧ ∀ i, i < n → (kd i = 13 ∨ kd i = 15) → tg i = nI (dm_cnt kd i) ∧ tn (dm_cnt kd i) = nI i
def dm_RC (kd : Nat → Int32) (n : Nat) (m : Nat → Int64) (vK vA vB : Nat → Int32) (pF pS : Nat → Int64) (cT : Nat → Int32) (c : Nat) : Prop :=
  (vK c = 1 ∧ m c = dm_val 1 (vA c)) ∨
  (vK c = 2 ∧ ∃ p a b, p ≤ 64 ∧ a < c ∧ b < c ∧ m c = dm_val 2 (nI p) ∧ vA c = nI a ∧ vB c = nI b ∧ pF p = m a ∧ pS p = m b) ∨
  (vK c = 3 ∧ ∃ p l, p ≤ 64 ∧ l < n ∧ m c = dm_val 3 (nI p) ∧ vA c = nI l ∧ cT p = nI (dm_cnt kd l))
def dm_RR (kd : Nat → Int32) (n : Nat) (xr : Int64) (yr : Int32) (vK vA vB : Nat → Int32) (pF pS : Nat → Int64) (cT : Nat → Int32) : Prop :=
  (xr = 0 ∧ yr = -1) ∨ ∃ (hp : Nat) (m : Nat → Int64) (c : Nat), hp ≤ 4096 ∧ c < hp ∧ xr = m c ∧ yr = nI c ∧ ∀ c, c < hp → dm_RC kd n m vK vA vB pF pS cT c
def i_Rel (k : Nat) (u : SX) (v : SY) : Prop := match u, v with
  | (xB, xD, xn, xo, xc, xl, oc, xu, xa, pk, xr, xw, en, cn, cb, cv, kd, na, nb, se, fn, tg, tn, pF, pS, cT, cB, bo, wN, wF, wB, wV), (yB, yD, yn, yc, yo, yu, ya, yp, yr, yh, ye, ys, er, rt, yk, ym, yb, vK, vA, vB, eN, eV, eX, fN, fS, fE, fV) => ∃ B D n : Nat, xB = nI B ∧ yB = nI B ∧ xD = nI D ∧ yD = nI D ∧ xn = nI n ∧ yn = nI n ∧ xo = nI (dm_O kd n) ∧ yc = xc ∧ yo = oc ∧ yu = xu ∧ yp = pk ∧ yk = kd ∧ ym = na ∧ yb = nb ∧ 1 ≤ B ∧ B ≤ 64 ∧ 1 ≤ D ∧ D ≤ 8 ∧ dm_Pg kd na nb n ∧
    ((xc = 0 ∧ xl = 0 ∧ xr = 0 ∧ yr = -1) ∨ (xc = 1 ∧ xl = nI (dm_cnt kd n) ∧ dm_Cp kd na nb se fn tg tn n ∧ dm_RR kd n xr yr vK vA vB pF pS cT))
theorem i_up {k : Nat} {u : SX} {v : SY} (h : i_Rel k u v) : i_Rel (k + 4) u v := h
end
section
/-! the reference's walks over the tree -/
theorem dm_ar_e {post : Int32 → Prop} {k : Int32} (a : Nat) (h : post (nI (dm_ar k))) (e : dm_ar k = a) : post (nI a) := e ▸ h
theorem dm_opn {o a : Nat} (h : 1 ≤ o) : nI o + (nI a - 1) = nI (o + a - 1) := by
  have e : nI o + (nI a - 1) = nI o + nI a - nI 1 := by
    show nI o + (nI a - 1) = nI o + nI a - 1
    grind
  rw [e, nI_add, pk_sub (by omega)]
def dm_kk (k : Int32) : Prop := ∃ q, 1 ≤ q ∧ q ≤ 16 ∧ k = nI q
theorem dm_kk1 {k : Int32} (h : dm_kk k) : ¬ k < 1 := by
  obtain ⟨q, h1, h2, rfl⟩ := h
  exact nI_nlt (b := 1) h1 (by omega)
theorem dm_kk16 {k : Int32} (h : dm_kk k) : ¬ 16 < k := by
  obtain ⟨q, h1, h2, rfl⟩ := h
  exact nI_nlt (a := 16) h2 (by omega)
theorem y_arity {yB yD yn yc yo yu ya yp yr yh ye ys er rt : Int32} {kd na nb vK vA vB eN eV eX fN fS fE fV : Nat → Int32} {post : Int32 → Prop} {k : Int32} (hk : dm_kk k) (h : post (nI (dm_ar k))) : wpY_arity post (yB, yD, yn, yc, yo, yu, ya, yp, yr, yh, ye, ys, er, rt, kd, na, nb, vK, vA, vB, eN, eV, eX, fN, fS, fE, fV) k := by
  by_cases c1 : k = 1
  · exact br_t c1 (dm_ar_e 0 h (by rw [c1]; decide))
  by_cases c2 : k = 2
  · exact br_f c1 (br_t c2 (dm_ar_e 0 h (by rw [c2]; decide)))
  by_cases c9 : k = 9
  · exact br_f c1 (br_f c2 (br_t c9 (dm_ar_e 3 h (by rw [c9]; decide))))
  by_cases c11 : k = 11
  · exact br_f c1 (br_f c2 (br_f c9 (br_t c11 (dm_ar_e 1 h (by rw [c11]; decide)))))
  by_cases c12 : k = 12
  · exact br_f c1 (br_f c2 (br_f c9 (br_f c11 (br_t c12 (dm_ar_e 1 h (by rw [c12]; decide))))))
  by_cases c13 : k = 13
  · exact br_f c1 (br_f c2 (br_f c9 (br_f c11 (br_f c12 (br_t c13 (dm_ar_e 1 h (by rw [c13]; decide)))))))
  have e : dm_ar k = 2 := by
    unfold dm_ar
    rw [if_neg (by rintro (a | a) <;> contradiction), if_neg c9, if_neg (by rintro (a | a | a) <;> contradiction)]
  exact br_f c1 (br_f c2 (br_f c9 (br_f c11 (br_f c12 (br_f c13 (br_f (dm_kk1 hk) (br_f (dm_kk16 hk) (dm_ar_e 2 h e))))))))
theorem x_cc {post : Int32 → Prop} {k : Int32} (hk : dm_kk k) (h : post (nI (dm_ar k))) : wpX_childCount post k := by
  refine br_f (dm_kk1 hk) ?_
  by_cases b : 13 < k
  · refine br_t b (dm_ar_e 2 h ?_)
    obtain ⟨q, h1, h2, rfl⟩ := hk
    have b2 : 13 < q := (nI_ltI (by omega) (by omega)).mp b
    rcases (show q = 14 ∨ q = 15 ∨ q = 16 by omega) with rfl | rfl | rfl <;> decide
  refine br_f b ?_
  by_cases c1 : k = 1
  · exact br_t c1 (dm_ar_e 0 h (by rw [c1]; decide))
  refine br_f c1 ?_
  by_cases c2 : k = 2
  · exact br_t c2 (dm_ar_e 0 h (by rw [c2]; decide))
  refine br_f c2 ?_
  by_cases c3 : k = 3
  · exact br_t c3 (dm_ar_e 2 h (by rw [c3]; decide))
  refine br_f c3 ?_
  by_cases c4 : k = 4
  · exact br_t c4 (dm_ar_e 2 h (by rw [c4]; decide))
  refine br_f c4 ?_
  by_cases c5 : k = 5
  · exact br_t c5 (dm_ar_e 2 h (by rw [c5]; decide))
  refine br_f c5 ?_
  by_cases c6 : k = 6
  · exact br_t c6 (dm_ar_e 2 h (by rw [c6]; decide))
  refine br_f c6 ?_
  by_cases c7 : k = 7
  · exact br_t c7 (dm_ar_e 2 h (by rw [c7]; decide))
  refine br_f c7 ?_
  by_cases c8 : k = 8
  · exact br_t c8 (dm_ar_e 2 h (by rw [c8]; decide))
  refine br_f c8 ?_
  by_cases c9 : k = 9
  · exact br_t c9 (dm_ar_e 3 h (by rw [c9]; decide))
  refine br_f c9 ?_
  by_cases c10 : k = 10
  · exact br_t c10 (dm_ar_e 2 h (by rw [c10]; decide))
  refine br_f c10 ?_
  by_cases c11 : k = 11
  · exact br_t c11 (dm_ar_e 1 h (by rw [c11]; decide))
  refine br_f c11 ?_
  by_cases c12 : k = 12
  · exact br_t c12 (dm_ar_e 1 h (by rw [c12]; decide))
  refine br_f c12 ?_
  by_cases c13 : k = 13
  · exact br_t c13 (dm_ar_e 1 h (by rw [c13]; decide))
  exact br_f c13 trivial
section
variable {yB yD yc yo yu ya yp yr yh ye ys er rt : Int32} {vK vA vB eN eV eX fN fS fE fV : Nat → Int32} {kd na nb : Nat → Int32} {n : Nat}
theorem dm_Pgk {k : Nat} (P : dm_Pg kd na nb n) (hk : k < n) : dm_kk (kd k) := (P.2.2 k hk).1
theorem y_open4 {post : Int32 → Prop} (P : dm_Pg kd na nb n) (h : post (nI (dm_O kd n))) : ∀ d k, k + d = n → wY_openPlaces_4 post yB yD (nI n) yc yo yu ya yp yr yh ye ys er rt kd na nb vK vA vB eN eV eX fN fS fE fV (d + 1) (nI (dm_O kd k)) (nI k) := by
  have hn := P.1
  intro d
  induction d with
  | zero =>
    intro k hk
    have e : k = n := by omega
    subst e
    exact br_t (nI_le (Nat.le_refl _) (by omega)) h
  | succ d ih =>
    intro k hk
    refine br_f (nI_ge (by omega) (by omega)) ⟨vp_in_nI (by omega) (by omega), ?_⟩
    rw [nI_clamp (by omega)]
    refine y_arity (dm_Pgk P (by omega)) ?_
    exact nm_r (dm_opn (P.2.1 k (by omega))) (nm_r (nI_1 k) (ih (k + 1) (by omega)))
theorem y_isC {post : Int32 → Prop} (P : dm_Pg kd na nb n) (h1 : dm_O kd n = 0 → post 1) (h0 : ¬ dm_O kd n = 0 → post 0) : wpY_isComplete post (yB, yD, nI n, yc, yo, yu, ya, yp, yr, yh, ye, ys, er, rt, kd, na, nb, vK, vA, vB, eN, eV, eX, fN, fS, fE, fV) := by
  have hn := P.1
  rcases Nat.eq_zero_or_pos n with z | z
  · subst z
    exact br_t (nI_le (a := 0) (b := 0) (Nat.le_refl 0) (by omega)) (h0 (by rw [dm_O0]; omega))
  · refine br_f (nI_nle z (by omega)) ?_
    refine ⟨n + 1, y_open4 P ?_ n 0 (by omega)⟩
    have hb := dm_O_b kd n
    by_cases e : dm_O kd n = 0
    · exact br_t (by rw [e]; rfl) (h1 e)
    · exact br_f (nI_ne0 (by omega) (by omega)) (h0 e)
theorem y_sub4 {post : Int32 → Prop} {i : Nat} (P : dm_Pg kd na nb n) (T : dm_Tr kd n) (hi : i < n) (h : post (nI (dm_E kd i))) : ∀ d k, k + d = dm_E kd i → i ≤ k → wY_subEnd_4 post yB yD (nI n) yc yo yu ya yp yr yh ye ys er rt kd na nb vK vA vB eN eV eX fN fS fE fV (d + 1) (nI (dm_O kd k + 1 - dm_O kd i)) (nI k) := by
  have hn := P.1
  obtain ⟨⟨a1, a2, a3⟩, a4⟩ := dm_E_s T hi
  intro d
  induction d with
  | zero =>
    intro k hk hik
    have e : k = dm_E kd i := by omega
    subst e
    refine br_t ?_ h
    rw [show dm_O kd (dm_E kd i) + 1 - dm_O kd i = 0 by omega]
    exact nI_le (a := 0) (b := 0) (Nat.le_refl 0) (by omega)
  | succ d ih =>
    intro k hk hik
    have b1 := a3 k hik (by omega)
    have b2 := dm_O_b kd k
    have b3 := T.1 k (by omega)
    refine br_f (nI_nle (by omega) (by omega)) (br_f (nI_pos (by omega)) (br_f (nI_ge (by omega) (by omega)) ⟨vp_in_nI (by omega) (by omega), ?_⟩))
    rw [nI_clamp (by omega)]
    refine y_arity (dm_Pgk P (by omega)) ?_
    refine nm_r (dm_opn (by omega)) (nm_r (nI_1 k) ?_)
    have e : dm_O kd k + 1 - dm_O kd i + dm_ar (kd k) - 1 = dm_O kd (k + 1) + 1 - dm_O kd i := by
      rw [dm_Os]
      omega
    rw [e]
    exact ih (k + 1) (by omega) (by omega)
theorem y_sub {post : Int32 → Prop} {i : Nat} (P : dm_Pg kd na nb n) (T : dm_Tr kd n) (hi : i < n) (h : post (nI (dm_E kd i))) : wpY_subEnd post (yB, yD, nI n, yc, yo, yu, ya, yp, yr, yh, ye, ys, er, rt, kd, na, nb, vK, vA, vB, eN, eV, eX, fN, fS, fE, fV) (nI i) := by
  have a1 := dm_E_gt T hi
  refine ⟨dm_E kd i - i + 1, ?_⟩
  have g : wY_subEnd_4 post yB yD (nI n) yc yo yu ya yp yr yh ye ys er rt kd na nb vK vA vB eN eV eX fN fS fE fV (dm_E kd i - i + 1) (nI (dm_O kd i + 1 - dm_O kd i)) (nI i) := y_sub4 P T hi h (dm_E kd i - i) i (by omega) (Nat.le_refl _)
  rw [show dm_O kd i + 1 - dm_O kd i = 1 by omega] at g
  exact g
theorem y_ch7 {post : Int32 → Prop} {i c : Nat} (P : dm_Pg kd na nb n) (T : dm_Tr kd n) (hi : i < n) (hc : c ≤ dm_ar (kd i)) (h : post (nI (dm_ch kd i c))) : ∀ d j, j + d = c → wY_childAt_7 post (nI c) yB yD (nI n) yc yo yu ya yp yr yh ye ys er rt kd na nb vK vA vB eN eV eX fN fS fE fV (d + 1) (nI (dm_ch kd i j)) (nI j) := by
  have hn := P.1
  have h3 := dm_ar3 (kd i)
  intro d
  induction d with
  | zero =>
    intro j hj
    have e : j = c := by omega
    subst e
    exact br_t (nI_le (Nat.le_refl _) (by omega)) h
  | succ d ih =>
    intro j hj
    refine br_f (nI_ge (by omega) (by omega)) (br_f (nI_ge (b := 3) (by omega) (by omega)) ?_)
    refine y_sub P T (dm_ch_lt T hi (by omega)) ?_
    exact nm_r (nI_1 j) (ih (j + 1) (by omega))
theorem y_ch {post : Int32 → Prop} {i c : Nat} (P : dm_Pg kd na nb n) (T : dm_Tr kd n) (hi : i < n) (hc : c ≤ dm_ar (kd i)) (h : post (nI (dm_ch kd i c))) : wpY_childAt post (yB, yD, nI n, yc, yo, yu, ya, yp, yr, yh, ye, ys, er, rt, kd, na, nb, vK, vA, vB, eN, eV, eX, fN, fS, fE, fV) (nI i) (nI c) := by
  refine nm_r (nI_1 i) ⟨c + 1, ?_⟩
  exact y_ch7 P T hi hc h c 0 (by omega)
theorem y_par4 {post : Int32 → Prop} {j : Nat} (P : dm_Pg kd na nb n) (T : dm_Tr kd n) (hj : j < n) (h0 : j = 0 → post (-1)) (h1 : ∀ p, dm_Pa kd p j → post (nI p)) : ∀ d, d ≤ j → (∀ q, d ≤ q → q < j → dm_E kd q ≤ j) → wY_parent_4 post (nI j) yB yD (nI n) yc yo yu ya yp yr yh ye ys er rt kd na nb vK vA vB eN eV eX fN fS fE fV (d + 1) (nI d - 1) := by
  have hn := P.1
  intro d
  induction d with
  | zero =>
    intro _ hq
    refine br_t (by decide) (h0 ?_)
    rcases Nat.eq_zero_or_pos j with z | z
    · exact z
    · have := hq 0 (by omega) z
      rw [dm_E_0 T] at this
      omega
  | succ d ih =>
    intro hd hq
    rw [nI_pred]
    refine br_f (nI_pos (by omega)) ?_
    refine y_sub P T (by omega) ?_
    have hl := dm_E_le T (i := d) (by omega)
    by_cases e : dm_E kd d ≤ j
    · refine br_t (nI_le e (by omega)) ?_
      refine nm_r (show nI d + (-1) = nI d - 1 by grind) (ih (by omega) (fun q h2 h3 => ?_))
      rcases Nat.eq_or_lt_of_le h2 with z | z
      · subst z
        exact e
      · exact hq q z h3
    · exact br_f (nI_ge (by omega) (by omega)) (h1 d ⟨by omega, by omega, fun q h2 h3 => hq q h2 h3⟩)
theorem y_par {post : Int32 → Prop} {j : Nat} (P : dm_Pg kd na nb n) (T : dm_Tr kd n) (hj : j < n) (h0 : j = 0 → post (-1)) (h1 : ∀ p, dm_Pa kd p j → post (nI p)) : wpY_parent post (yB, yD, nI n, yc, yo, yu, ya, yp, yr, yh, ye, ys, er, rt, kd, na, nb, vK, vA, vB, eN, eV, eX, fN, fS, fE, fV) (nI j) := by
  refine nm_e ⟨j + 1, ?_⟩
  exact y_par4 P T hj h0 h1 j (Nat.le_refl _) (fun q h2 h3 => by omega)
theorem y_ci14 {post : Int32 → Prop} {p c : Nat} (P : dm_Pg kd na nb n) (T : dm_Tr kd n) (hp : p < n) (hc : c < dm_ar (kd p)) (h : post (nI c)) : ∀ d j, j + d = c → wY_childIndex_14 post (nI p) (nI (dm_ch kd p c)) (nI (dm_ar (kd p))) yB yD (nI n) yc yo yu ya yp yr yh ye ys er rt kd na nb vK vA vB eN eV eX fN fS fE fV (d + 1) (nI j) := by
  have hn := P.1
  have h3 := dm_ar3 (kd p)
  have hl := dm_ch_lt T hp hc
  intro d
  induction d with
  | zero =>
    intro j hj
    have e : j = c := by omega
    subst e
    refine br_f (nI_ge hc (by omega)) (y_ch P T hp (by omega) ?_)
    exact br_t rfl h
  | succ d ih =>
    intro j hj
    refine br_f (nI_ge (by omega) (by omega)) (y_ch P T hp (by omega) ?_)
    have hl2 := dm_ch_lt T hp (c := j) (by omega)
    refine br_f (fun e => ?_) (nm_r (nI_1 j) (ih (j + 1) (by omega)))
    have e2 := (nI_eq (by omega) (by omega)).mp e
    have := dm_ch_inj T hp (by omega) hc e2
    omega
theorem y_ci {post : Int32 → Prop} {p c : Nat} (P : dm_Pg kd na nb n) (T : dm_Tr kd n) (hp : p < n) (hc : c < dm_ar (kd p)) (h : post (nI c)) : wpY_childIndex post (yB, yD, nI n, yc, yo, yu, ya, yp, yr, yh, ye, ys, er, rt, kd, na, nb, vK, vA, vB, eN, eV, eX, fN, fS, fE, fV) (nI p) (nI (dm_ch kd p c)) := by
  have hn := P.1
  refine ⟨vp_in_nI (by omega) (by omega), ?_⟩
  rw [nI_clamp (by omega)]
  refine y_arity (dm_Pgk P hp) ⟨c + 1, ?_⟩
  exact y_ci14 P T hp hc h c 0 (by omega)
theorem y_binds {post : Int32 → Prop} {p c : Nat} {x : Int32} (hn : n ≤ 32) (hp : p < n) (hc : c < 3) (h1 : dm_bd kd na nb p c x → post 1) (h0 : ¬ dm_bd kd na nb p c x → post 0) : wpY_binds post (yB, yD, nI n, yc, yo, yu, ya, yp, yr, yh, ye, ys, er, rt, kd, na, nb, vK, vA, vB, eN, eV, eX, fN, fS, fE, fV) (nI p) (nI c) x := by
  have c0 : nI c = 0 ↔ c = 0 := by
    rw [← nI_0]
    exact nI_eq (by omega) (by omega)
  have c1 : nI c = 1 ↔ c = 1 := nI_eq (b := 1) (by omega) (by omega)
  have hin : vp_in (nI p) 33 := vp_in_nI (by omega) (by omega)
  refine ⟨hin, ?_⟩
  rw [nI_clamp (by omega)]
  refine nm_e ?_
  unfold dm_bd at h1 h0
  by_cases k13 : kd p = 13
  · refine br_t k13 ?_
    by_cases z : c = 0
    · refine br_t (c0.mpr z) ⟨hin, ?_⟩
      by_cases w : na p = x
      · exact br_t w (h1 (Or.inl ⟨k13, z, w⟩))
      · refine br_f w (h0 ?_)
        rw [k13]
        rintro (⟨_, _, g⟩ | ⟨g, _⟩ | ⟨g, _⟩)
        · exact w g
        · exact absurd g (by decide)
        · exact absurd g (by decide)
    · refine br_f (fun g => z (c0.mp g)) (h0 ?_)
      rw [k13]
      rintro (⟨_, g, _⟩ | ⟨g, _⟩ | ⟨g, _⟩)
      · exact z g
      · exact absurd g (by decide)
      · exact absurd g (by decide)
  refine br_f k13 ?_
  by_cases k14 : kd p = 14
  · refine br_t k14 ?_
    by_cases z : c = 1
    · refine br_t (c1.mpr z) ⟨hin, ?_⟩
      by_cases w : na p = x
      · exact br_t w (h1 (Or.inr (Or.inl ⟨k14, z, w⟩)))
      · refine br_f w (h0 ?_)
        rintro (⟨g, _⟩ | ⟨_, _, g⟩ | ⟨g, _⟩)
        · exact k13 g
        · exact w g
        · rw [k14] at g
          exact absurd g (by decide)
    · refine br_f (fun g => z (c1.mp g)) (h0 ?_)
      rintro (⟨g, _⟩ | ⟨_, g, _⟩ | ⟨g, _⟩)
      · exact k13 g
      · exact z g
      · rw [k14] at g
        exact absurd g (by decide)
  refine br_f k14 ?_
  by_cases k15 : kd p = 15
  · refine br_t k15 ?_
    have tail : ¬ (c = 0 ∧ (na p = x ∨ nb p = x)) → wY_binds_94 post (nI p) (nI c) x yB yD (nI n) yc yo yu ya yp yr yh ye ys er rt kd na nb vK vA vB eN eV eX fN fS fE fV := by
      intro hz
      by_cases z1 : c = 1
      · refine br_t (c1.mpr z1) ⟨hin, ?_⟩
        rw [nI_clamp (by omega)]
        by_cases w : na p = x
        · exact br_t w (h1 (Or.inr (Or.inr ⟨k15, Or.inr ⟨z1, w⟩⟩)))
        · refine br_f w (h0 ?_)
          rintro (⟨g, _⟩ | ⟨g, _⟩ | ⟨_, g | ⟨_, g⟩⟩)
          · exact k13 g
          · exact k14 g
          · exact hz g
          · exact w g
      · refine br_f (fun g => z1 (c1.mp g)) (h0 ?_)
        rintro (⟨g, _⟩ | ⟨g, _⟩ | ⟨_, g | ⟨g, _⟩⟩)
        · exact k13 g
        · exact k14 g
        · exact hz g
        · exact z1 g
    by_cases z : c = 0
    · refine br_t (c0.mpr z) ⟨hin, ?_⟩
      by_cases w : na p = x
      · exact br_t w (h1 (Or.inr (Or.inr ⟨k15, Or.inl ⟨z, Or.inl w⟩⟩)))
      · refine br_f w ⟨hin, ?_⟩
        by_cases w2 : nb p = x
        · exact br_t w2 (h1 (Or.inr (Or.inr ⟨k15, Or.inl ⟨z, Or.inr w2⟩⟩)))
        · exact br_f w2 (tail (fun g => g.2.elim w w2))
    · exact br_f (fun g => z (c0.mp g)) (tail (fun g => z g.1))
  · refine br_f k15 (h0 ?_)
    rintro (⟨g, _⟩ | ⟨g, _⟩ | ⟨g, _⟩)
    · exact k13 g
    · exact k14 g
    · exact k15 g
/-- top: -1, or a node above cur -/
theorem y_bound13 {post : Int32 → Prop} {v t : Nat} {x2 x : Int32} (P : dm_Pg kd na nb n) (T : dm_Tr kd n) (hv : v < n) (ht : t < n) (hx2 : (x2 = -1 ∧ t = 0) ∨ x2 = nI t) (h1 : ¬ dm_UB kd na nb n v t x → post 1) (h0 : dm_UB kd na nb n v t x → post 0) :
    ∀ d cur, cur ≤ d → t ≤ cur → (x2 = nI t → t < cur) → cur ≤ v → v < dm_E kd cur → cur < dm_E kd t → dm_UB kd na nb n v cur x → ∀ s, s + cur ≤ 32 → wY_bound_13 post x2 x yB yD (nI n) yc yo yu ya yp yr yh ye ys er rt kd na nb vK vA vB eN eV eX fN fS fE fV (d + 1) (nI cur) (nI s) := by
  have hn := P.1
  intro d
  induction d with
  | zero =>
    intro cur hd htc htx hcv hvE hcE hU s hs
    have e : cur = 0 := by omega
    subst e
    have et : t = 0 := by omega
    subst et
    refine br_f (nI_ge (b := 33) (by omega) (by omega)) (y_par P T (by omega) (fun _ => ?_) (fun p hp => ?_))
    · exact br_f (by decide) (h0 hU)
    · have := hp.1
      omega
  | succ d ih =>
    intro cur hd htc htx hcv hvE hcE hU s hs
    refine br_f (nI_ge (b := 33) (by omega) (by omega)) (y_par P T (by omega) (fun e => ?_) (fun p hp => ?_))
    · subst e
      have et : t = 0 := by omega
      subst et
      exact br_f (by decide) (h0 hU)
    · have hpl := hp.1
      obtain ⟨c, hc, rfl⟩ := dm_Pa_ch T (by omega) hp
      have h3 := dm_ar3 (kd p)
      have htp : t ≤ p := by
        apply Nat.le_of_not_lt
        intro z
        have := hp.2.2
        rcases Nat.lt_or_ge t (dm_ch kd p c) with w | w
        · have := hp.2.2 t z w
          omega
        · have et : t = dm_ch kd p c := by omega
          rcases hx2 with ⟨_, e0⟩ | e1
          · omega
          · have := htx e1
            omega
      refine br_t (nI_pos' (by omega)) (y_ci P T (by omega) hc (y_binds hn (by omega) (by omega) (fun hb => ?_) (fun hb => ?_)))
      · refine br_f (by decide) (h1 (fun hUt => ?_))
        exact hUt p c htp (by omega) hc hcv hvE hb
      · have hUp := dm_UB_up T (by omega) hc hcv hvE hU hb
        refine br_t rfl ?_
        have hin := dm_ch_in T (i := p) (by omega) hc
        by_cases e : nI p = x2
        · have ept : p = t := by
            rcases hx2 with ⟨e0, _⟩ | e1
            · rw [e0] at e
              have := nI_pos' (n := p) (by omega)
              rw [e] at this
              exact absurd this (by decide)
            · rw [e1] at e
              exact (nI_eq (by omega) (by omega)).mp e
          subst ept
          exact br_t e (h0 hUp)
        · refine br_f e (nm_r (nI_1 s) (ih p (by omega) htp (fun e1 => ?_) (by omega) (by omega) (by omega) hUp (s + 1) (by omega)))
          rcases Nat.eq_or_lt_of_le htp with z | z
          · subst z
            exact absurd e1.symm e
          · exact z
theorem y_bound {post : Int32 → Prop} {v t : Nat} {x2 : Int32} (P : dm_Pg kd na nb n) (T : dm_Tr kd n) (hv : v < n) (ht : t < n) (hx2 : (x2 = -1 ∧ t = 0) ∨ (x2 = nI t ∧ t < v ∧ v < dm_E kd t)) (h1 : ¬ dm_UB kd na nb n v t (na v) → post 1) (h0 : dm_UB kd na nb n v t (na v) → post 0) : wpY_bound post (yB, yD, nI n, yc, yo, yu, ya, yp, yr, yh, ye, ys, er, rt, kd, na, nb, vK, vA, vB, eN, eV, eX, fN, fS, fE, fV) (nI v) x2 := by
  have hn := P.1
  refine ⟨vp_in_nI (by omega) (by omega), ?_⟩
  rw [nI_clamp (by omega)]
  refine nm_e ⟨v + 1, ?_⟩
  have hx3 : (x2 = -1 ∧ t = 0) ∨ x2 = nI t := by
    rcases hx2 with h | h
    · exact Or.inl h
    · exact Or.inr h.1
  refine y_bound13 P T hv ht hx3 h1 h0 v v (Nat.le_refl _) ?_ ?_ (Nat.le_refl _) (dm_E_gt T hv) ?_ (dm_UB_v T) 0 (by omega)
  · rcases hx2 with h | h <;> omega
  · intro e
    rcases hx2 with h | h
    · rw [h.1] at e
      have := nI_pos' (n := t) (by omega)
      rw [← e] at this
      exact absurd this (by decide)
    · exact h.2.1
  · rcases hx2 with h | h
    · rw [h.2, dm_E_0 T]
      exact hv
    · exact h.2.2
end
end
section
/-! construction, reset, node and the calls that only tell -/
theorem dm_clx (p : Int32) (M : Nat) (hM : 1 ≤ M) (hM2 : M < 1000) : ∃ j, 1 ≤ j ∧ j ≤ M ∧ ∀ A : Int32 → Prop, A (nI j) → ((1 ≤ p → ((p ≤ nI M → A p) ∧ (¬ p ≤ nI M → A (nI M)))) ∧ (¬ 1 ≤ p → A 1)) := by
  by_cases h : 1 ≤ p
  · by_cases h2 : p ≤ nI M
    · have h0 : ¬ p < 0 := Int32.not_lt.mpr (Int32.le_trans (by decide) h)
      obtain ⟨j, hj, rfl⟩ := nI_of h0
      exact ⟨j, (nI_leI (a := 1) (by omega) hj).mp h, (nI_leI hj (by omega)).mp h2, fun A a => br_t h (br_t h2 a)⟩
    · exact ⟨M, hM, Nat.le_refl _, fun A a => br_t h (br_f h2 a)⟩
  · exact ⟨1, Nat.le_refl _, hM, fun A a => br_f h a⟩
theorem dm_Pg0 (kd na nb : Nat → Int32) : dm_Pg kd na nb 0 := ⟨by omega, fun k h => absurd h (Nat.not_lt_zero k), fun k h => absurd h (Nat.not_lt_zero k)⟩
theorem i_vc0 (k0 : Int32) (k1 : Int32) : wpX_init (fun u => wpY_init (fun v => i_Rel 2 u v) k0 k1) k0 k1 := by
  obtain ⟨B, b1, b2, hB⟩ := dm_clx k0 64 (by omega) (by omega)
  obtain ⟨D, d1, d2, hD⟩ := dm_clx k1 8 (by omega) (by omega)
  have xB : ∀ post : Int32 → Prop, post (nI B) → wpX_clamp post k0 64 := fun post h => hB post h
  have xD : ∀ post : Int32 → Prop, post (nI D) → wpX_clamp post k1 8 := fun post h => hD post h
  unfold wpX_init
  refine xB _ (xD _ ?_)
  unfold wpX_reset
  dsimp only
  unfold wpY_init
  refine hB (fun z => wY_init_151 _ k1 z 0 0 0 0 14 0 0 0 (-1) 0 0 0 0 0 (fun _ => 0) (fun _ => 0) (fun _ => 0) (fun _ => 0) (fun _ => 0) (fun _ => 0) (fun _ => 0) (fun _ => 0) (fun _ => 0) (fun _ => 0) (fun _ => 0) (fun _ => 0) (fun _ => 0)) ?_
  unfold wY_init_151
  refine hD (fun z => i_Rel 2 _ (nI B, z, _)) ?_
  exact ⟨B, D, 0, rfl, rfl, rfl, rfl, rfl, rfl, rfl, rfl, rfl, rfl, rfl, rfl, rfl, rfl, b1, b2, d1, d2, dm_Pg0 _ _ _, Or.inl ⟨rfl, rfl, rfl, rfl⟩⟩
section
variable {k : Nat} {u : SX} {v : SY}
theorem i_vc_reset {k : Nat} {u : SX} {v : SY} (I : i_Rel k u v) (hk : k + 4 ≤ 2050) : wpX_reset (fun u' => wpY_reset (fun v' => i_Rel (k + 4) u' v') v) u := by
  obtain ⟨xB, xD, xn, xo, xc, xl, oc, xu, xa, pk, xr, xw, en, cn, cb, cv, kd, na, nb, se, fn, tg, tn, pF, pS, cT, cB, bo, wN, wF, wB, wV⟩ := u
  obtain ⟨yB, yD, yn, yc, yo, yu, ya, yp, yr, yh, ye, ys, er, rt, yk, ym, yb, vK, vA, vB, eN, eV, eX, fN, fS, fE, fV⟩ := v
  obtain ⟨B, D, n, rfl, rfl, rfl, rfl, rfl, rfl, rfl, rfl, rfl, rfl, rfl, rfl, rfl, rfl, b1, b2, d1, d2, P, R⟩ := I
  exact ⟨B, D, 0, rfl, rfl, rfl, rfl, rfl, rfl, rfl, rfl, rfl, rfl, rfl, rfl, rfl, rfl, b1, b2, d1, d2, dm_Pg0 _ _ _, Or.inl ⟨rfl, rfl, rfl, rfl⟩⟩
theorem i_vc_nodeCount {k : Nat} {u : SX} {v : SY} (I : i_Rel k u v) (hk : k + 4 ≤ 2050) : wpX_nodeCount (fun r => wpY_nodeCount (fun r' => r' = r ∧ i_Rel (k + 4) u v) v) u := by
  have J := I
  obtain ⟨xB, xD, xn, xo, xc, xl, oc, xu, xa, pk, xr, xw, en, cn, cb, cv, kd, na, nb, se, fn, tg, tn, pF, pS, cT, cB, bo, wN, wF, wB, wV⟩ := u
  obtain ⟨yB, yD, yn, yc, yo, yu, ya, yp, yr, yh, ye, ys, er, rt, yk, ym, yb, vK, vA, vB, eN, eV, eX, fN, fS, fE, fV⟩ := v
  obtain ⟨B, D, n, rfl, rfl, rfl, rfl, rfl, rfl, rfl, rfl, rfl, rfl, rfl, rfl, rfl, rfl, b1, b2, d1, d2, P, R⟩ := I
  exact ⟨rfl, J⟩
theorem i_vc_lastOutcome {k : Nat} {u : SX} {v : SY} (I : i_Rel k u v) (hk : k + 4 ≤ 2050) : wpX_lastOutcome (fun r => wpY_lastOutcome (fun r' => r' = r ∧ i_Rel (k + 4) u v) v) u := by
  have J := I
  obtain ⟨xB, xD, xn, xo, xc, xl, oc, xu, xa, pk, xr, xw, en, cn, cb, cv, kd, na, nb, se, fn, tg, tn, pF, pS, cT, cB, bo, wN, wF, wB, wV⟩ := u
  obtain ⟨yB, yD, yn, yc, yo, yu, ya, yp, yr, yh, ye, ys, er, rt, yk, ym, yb, vK, vA, vB, eN, eV, eX, fN, fS, fE, fV⟩ := v
  obtain ⟨B, D, n, rfl, rfl, rfl, rfl, rfl, rfl, rfl, rfl, rfl, rfl, rfl, rfl, rfl, rfl, b1, b2, d1, d2, P, R⟩ := I
  exact ⟨rfl, J⟩
theorem i_vc_unitsUsed {k : Nat} {u : SX} {v : SY} (I : i_Rel k u v) (hk : k + 4 ≤ 2050) : wpX_unitsUsed (fun r => wpY_unitsUsed (fun r' => r' = r ∧ i_Rel (k + 4) u v) v) u := by
  have J := I
  obtain ⟨xB, xD, xn, xo, xc, xl, oc, xu, xa, pk, xr, xw, en, cn, cb, cv, kd, na, nb, se, fn, tg, tn, pF, pS, cT, cB, bo, wN, wF, wB, wV⟩ := u
  obtain ⟨yB, yD, yn, yc, yo, yu, ya, yp, yr, yh, ye, ys, er, rt, yk, ym, yb, vK, vA, vB, eN, eV, eX, fN, fS, fE, fV⟩ := v
  obtain ⟨B, D, n, rfl, rfl, rfl, rfl, rfl, rfl, rfl, rfl, rfl, rfl, rfl, rfl, rfl, rfl, b1, b2, d1, d2, P, R⟩ := I
  exact ⟨rfl, J⟩
theorem i_vc_peakDepth {k : Nat} {u : SX} {v : SY} (I : i_Rel k u v) (hk : k + 4 ≤ 2050) : wpX_peakDepth (fun r => wpY_peakDepth (fun r' => r' = r ∧ i_Rel (k + 4) u v) v) u := by
  have J := I
  obtain ⟨xB, xD, xn, xo, xc, xl, oc, xu, xa, pk, xr, xw, en, cn, cb, cv, kd, na, nb, se, fn, tg, tn, pF, pS, cT, cB, bo, wN, wF, wB, wV⟩ := u
  obtain ⟨yB, yD, yn, yc, yo, yu, ya, yp, yr, yh, ye, ys, er, rt, yk, ym, yb, vK, vA, vB, eN, eV, eX, fN, fS, fE, fV⟩ := v
  obtain ⟨B, D, n, rfl, rfl, rfl, rfl, rfl, rfl, rfl, rfl, rfl, rfl, rfl, rfl, rfl, rfl, b1, b2, d1, d2, P, R⟩ := I
  exact ⟨rfl, J⟩
theorem dm_b0 : narrow .boolean (.int (0 : Int32)) = .int 0 := by decide
theorem dm_b1 : narrow .boolean (.int (1 : Int32)) = .int 1 := by decide
theorem i_vc_isCompiled {k : Nat} {u : SX} {v : SY} (I : i_Rel k u v) (hk : k + 4 ≤ 2050) : wpX_isCompiled (fun r => wpY_isCompiled (fun r' => r' = r ∧ i_Rel (k + 4) u v) v) u := by
  have J := I
  obtain ⟨xB, xD, xn, xo, xc, xl, oc, xu, xa, pk, xr, xw, en, cn, cb, cv, kd, na, nb, se, fn, tg, tn, pF, pS, cT, cB, bo, wN, wF, wB, wV⟩ := u
  obtain ⟨yB, yD, yn, yc, yo, yu, ya, yp, yr, yh, ye, ys, er, rt, yk, ym, yb, vK, vA, vB, eN, eV, eX, fN, fS, fE, fV⟩ := v
  obtain ⟨B, D, n, rfl, rfl, rfl, rfl, rfl, rfl, rfl, rfl, rfl, rfl, rfl, rfl, rfl, rfl, b1, b2, d1, d2, P, R⟩ := I
  have hb : narrow .boolean (.int yc) = .int yc := by
    rcases R with ⟨h, _⟩ | ⟨h, _⟩
    · rw [h]
      exact dm_b0
    · rw [h]
      exact dm_b1
  exact ⟨hb, hb, rfl, J⟩
theorem i_vc_isComplete {k : Nat} {u : SX} {v : SY} (I : i_Rel k u v) (hk : k + 4 ≤ 2050) : wpX_isComplete (fun r => wpY_isComplete (fun r' => r' = r ∧ i_Rel (k + 4) u v) v) u := by
  have J := I
  obtain ⟨xB, xD, xn, xo, xc, xl, oc, xu, xa, pk, xr, xw, en, cn, cb, cv, kd, na, nb, se, fn, tg, tn, pF, pS, cT, cB, bo, wN, wF, wB, wV⟩ := u
  obtain ⟨yB, yD, yn, yc, yo, yu, ya, yp, yr, yh, ye, ys, er, rt, yk, ym, yb, vK, vA, vB, eN, eV, eX, fN, fS, fE, fV⟩ := v
  obtain ⟨B, D, n, rfl, rfl, rfl, rfl, rfl, rfl, rfl, rfl, rfl, rfl, rfl, rfl, rfl, rfl, b1, b2, d1, d2, P, R⟩ := I
  have hb := dm_O_b yk n
  have hn := P.1
  by_cases e : dm_O yk n = 0
  · exact br_t (by rw [e]; rfl) (y_isC P (fun _ => ⟨rfl, J⟩) (fun h => absurd e h))
  · exact br_f (nI_ne0 (by omega) (by omega)) (y_isC P (fun h => absurd h e) (fun _ => ⟨rfl, J⟩))
end
/-! node -/
def dm_nm (x : Int32) : Prop := ¬ x < 0 ∧ ¬ 8 ≤ x
def dm_bad (k a b : Int32) : Prop := ((k = 2 ∨ k = 13 ∨ k = 14 ∨ k = 15) ∧ ¬ dm_nm a) ∨ (k = 15 ∧ ¬ dm_nm b)
theorem dm_nm_N {x : Int32} (h : dm_nm x) : ∃ y, y < 8 ∧ x = nI y := by
  obtain ⟨j, hj, rfl⟩ := nI_of h.1
  refine ⟨j, Nat.lt_of_not_le (fun z => h.2 (nI_le (a := 8) z hj)), rfl⟩
theorem dm_nm7 {x : Int32} (h : ¬ x < 0) : x ≤ 7 ↔ ¬ 8 ≤ x := by
  obtain ⟨j, hj, rfl⟩ := nI_of h
  have a1 : nI j ≤ 7 ↔ j ≤ 7 := nI_leI (b := 7) hj (by omega)
  have a2 : 8 ≤ nI j ↔ 8 ≤ j := nI_leI (a := 8) (by omega) hj
  rw [a1, a2]
  omega
theorem x_isN {post : Int32 → Prop} {x : Int32} (h1 : dm_nm x → post 1) (h0 : ¬ dm_nm x → post 0) : wpX_isName post x := by
  by_cases a : x < 0
  · exact br_t a (h0 (fun z => z.1 a))
  · by_cases b : 8 ≤ x
    · exact br_f a (br_t b (h0 (fun z => z.2 b)))
    · exact br_f a (br_f b (h1 ⟨a, b⟩))
theorem x_bad {post : Int32 → Prop} {k a b : Int32} (h1 : dm_bad k a b → post 1) (h0 : ¬ dm_bad k a b → post 0) : wpX_hasBadName post k a b := by
  have one : (k = 2 ∨ k = 13 ∨ k = 14) → wX_hasBadName_44 post a := by
    intro hk
    refine x_isN (fun z => br_f (by decide) (h0 ?_)) (fun z => br_t rfl (h1 (Or.inl ⟨?_, z⟩)))
    · rintro (⟨_, g⟩ | ⟨g, _⟩)
      · exact g z
      · subst g
        rcases hk with hk | hk | hk <;> exact absurd hk (by decide)
    · rcases hk with hk | hk | hk
      · exact Or.inl hk
      · exact Or.inr (Or.inl hk)
      · exact Or.inr (Or.inr (Or.inl hk))
  by_cases c2 : k = 2
  · exact br_t c2 (one (Or.inl c2))
  refine br_f c2 ?_
  by_cases c13 : k = 13
  · exact br_t c13 (one (Or.inr (Or.inl c13)))
  refine br_f c13 ?_
  by_cases c14 : k = 14
  · exact br_t c14 (one (Or.inr (Or.inr c14)))
  refine br_f c14 ?_
  by_cases c15 : k = 15
  · refine br_t c15 (x_isN (fun z => br_f (by decide) (x_isN (fun w => br_f (by decide) (h0 ?_)) (fun w => br_t rfl (h1 (Or.inr ⟨c15, w⟩))))) (fun z => br_t rfl (h1 (Or.inl ⟨Or.inr (Or.inr (Or.inr c15)), z⟩))))
    rintro (⟨_, g⟩ | ⟨_, g⟩)
    · exact g z
    · exact g w
  · refine br_f c15 (h0 ?_)
    rintro (⟨g | g | g | g, _⟩ | ⟨g, _⟩)
    · exact c2 g
    · exact c13 g
    · exact c14 g
    · exact c15 g
    · exact c15 g
section
variable {yB yD yn yc yo yu ya yp yr yh ye ys er rt : Int32} {kd na nb vK vA vB eN eV eX fN fS fE fV : Nat → Int32} {post : Int32 → SY → Prop} {k a b : Int32}
theorem y_nd80 (h1 : k = 15 → ¬ dm_nm b → post 4 (yB, yD, yn, yc, yo, yu, ya, yp, yr, yh, ye, ys, er, rt, kd, na, nb, vK, vA, vB, eN, eV, eX, fN, fS, fE, fV)) (h0 : ¬ (k = 15 ∧ ¬ dm_nm b) → wY_node_98 post k a b yB yD yn yc yo yu ya yp yr yh ye ys er rt kd na nb vK vA vB eN eV eX fN fS fE fV) : wY_node_80 post k a b yB yD yn yc yo yu ya yp yr yh ye ys er rt kd na nb vK vA vB eN eV eX fN fS fE fV := by
  by_cases c : k = 15
  · refine br_t c ?_
    by_cases g : b < 0
    · exact br_t g (h1 c (fun z => z.1 g))
    · refine br_f g ?_
      by_cases g2 : b ≤ 7
      · exact br_t g2 (h0 (fun z => z.2 ⟨g, (dm_nm7 g).mp g2⟩))
      · exact br_f g2 (h1 c (fun z => g2 ((dm_nm7 g).mpr z.2)))
  · exact br_f c (h0 (fun z => c z.1))
theorem y_nd61 (h1 : dm_bad k a b → post 4 (yB, yD, yn, yc, yo, yu, ya, yp, yr, yh, ye, ys, er, rt, kd, na, nb, vK, vA, vB, eN, eV, eX, fN, fS, fE, fV)) (h0 : ¬ dm_bad k a b → wY_node_98 post k a b yB yD yn yc yo yu ya yp yr yh ye ys er rt kd na nb vK vA vB eN eV eX fN fS fE fV) (hk : k = 2 ∨ k = 13 ∨ k = 14 ∨ k = 15) : wY_node_61 post k a b 1 yB yD yn yc yo yu ya yp yr yh ye ys er rt kd na nb vK vA vB eN eV eX fN fS fE fV := by
  refine br_f (by decide) ?_
  by_cases g : a < 0
  · exact br_t g (h1 (Or.inl ⟨hk, fun z => z.1 g⟩))
  · refine br_f g ?_
    by_cases g2 : a ≤ 7
    · refine br_t g2 (y_nd80 (fun c z => h1 (Or.inr ⟨c, z⟩)) (fun z => h0 ?_))
      rintro (⟨_, w⟩ | w)
      · exact w ⟨g, (dm_nm7 g).mp g2⟩
      · exact z w
    · exact br_f g2 (h1 (Or.inl ⟨hk, fun z => g2 ((dm_nm7 g).mpr z.2)⟩))
theorem y_ndk (h1 : dm_bad k a b → post 4 (yB, yD, yn, yc, yo, yu, ya, yp, yr, yh, ye, ys, er, rt, kd, na, nb, vK, vA, vB, eN, eV, eX, fN, fS, fE, fV)) (h0 : ¬ dm_bad k a b → wY_node_98 post k a b yB yD yn yc yo yu ya yp yr yh ye ys er rt kd na nb vK vA vB eN eV eX fN fS fE fV) : ((k = 2 → (wY_node_56 post k a b yB yD yn yc yo yu ya yp yr yh ye ys er rt kd na nb vK vA vB eN eV eX fN fS fE fV)) ∧ (¬ k = 2 → (((k = 13 → (wY_node_56 post k a b yB yD yn yc yo yu ya yp yr yh ye ys er rt kd na nb vK vA vB eN eV eX fN fS fE fV)) ∧ (¬ k = 13 → (((k = 14 → (wY_node_56 post k a b yB yD yn yc yo yu ya yp yr yh ye ys er rt kd na nb vK vA vB eN eV eX fN fS fE fV)) ∧ (¬ k = 14 → (((k = 15 → (wY_node_56 post k a b yB yD yn yc yo yu ya yp yr yh ye ys er rt kd na nb vK vA vB eN eV eX fN fS fE fV)) ∧ (¬ k = 15 → (wY_node_61 post k a b 0 yB yD yn yc yo yu ya yp yr yh ye ys er rt kd na nb vK vA vB eN eV eX fN fS fE fV)))))))))))) := by
  by_cases c2 : k = 2
  · exact br_t c2 (y_nd61 h1 h0 (Or.inl c2))
  refine br_f c2 ?_
  by_cases c13 : k = 13
  · exact br_t c13 (y_nd61 h1 h0 (Or.inr (Or.inl c13)))
  refine br_f c13 ?_
  by_cases c14 : k = 14
  · exact br_t c14 (y_nd61 h1 h0 (Or.inr (Or.inr (Or.inl c14))))
  refine br_f c14 ?_
  by_cases c15 : k = 15
  · exact br_t c15 (y_nd61 h1 h0 (Or.inr (Or.inr (Or.inr c15))))
  · refine br_f c15 (br_t rfl (y_nd80 (fun c => absurd c c15) (fun z => h0 ?_)))
    rintro (⟨g | g | g | g, _⟩ | ⟨g, _⟩)
    · exact c2 g
    · exact c13 g
    · exact c14 g
    · exact c15 g
    · exact c15 g
theorem y_node1 {kd na nb : Nat → Int32} {n : Nat} (P : dm_Pg kd na nb n) (e : dm_O kd n = 0) (h : post 1 (yB, yD, nI n, yc, yo, yu, ya, yp, yr, yh, ye, ys, er, rt, kd, na, nb, vK, vA, vB, eN, eV, eX, fN, fS, fE, fV)) : wpY_node post (yB, yD, nI n, yc, yo, yu, ya, yp, yr, yh, ye, ys, er, rt, kd, na, nb, vK, vA, vB, eN, eV, eX, fN, fS, fE, fV) k a b := by
  unfold wpY_node
  exact y_isC P (fun _ => br_f (by decide) h) (fun g => absurd e g)
theorem y_node2 {kd na nb : Nat → Int32} (P : dm_Pg kd na nb 32) (e : ¬ dm_O kd 32 = 0) (h : post 2 (yB, yD, nI 32, yc, yo, yu, ya, yp, yr, yh, ye, ys, er, rt, kd, na, nb, vK, vA, vB, eN, eV, eX, fN, fS, fE, fV)) : wpY_node post (yB, yD, nI 32, yc, yo, yu, ya, yp, yr, yh, ye, ys, er, rt, kd, na, nb, vK, vA, vB, eN, eV, eX, fN, fS, fE, fV) k a b := by
  unfold wpY_node
  exact y_isC P (fun g => absurd g e) (fun _ => br_t rfl (br_f (by decide) h))
theorem y_node3 {kd na nb : Nat → Int32} {n : Nat} (P : dm_Pg kd na nb n) (e : ¬ dm_O kd n = 0) (hn : n < 32) (hk : k < 1 ∨ (¬ k < 1 ∧ ¬ k ≤ 16)) (h : post 3 (yB, yD, nI n, yc, yo, yu, ya, yp, yr, yh, ye, ys, er, rt, kd, na, nb, vK, vA, vB, eN, eV, eX, fN, fS, fE, fV)) : wpY_node post (yB, yD, nI n, yc, yo, yu, ya, yp, yr, yh, ye, ys, er, rt, kd, na, nb, vK, vA, vB, eN, eV, eX, fN, fS, fE, fV) k a b := by
  unfold wpY_node
  refine y_isC P (fun g => absurd g e) (fun _ => br_t rfl (br_t (nI_lt (b := 32) hn (by omega)) ?_))
  rcases hk with g | ⟨g, g2⟩
  · exact br_t g h
  · exact br_f g (br_f g2 h)
theorem y_node0 {kd na nb : Nat → Int32} {n : Nat} (P : dm_Pg kd na nb n) (e : ¬ dm_O kd n = 0) (hn : n < 32) (k1 : ¬ k < 1) (k2 : k ≤ 16) (h1 : dm_bad k a b → post 4 (yB, yD, nI n, yc, yo, yu, ya, yp, yr, yh, ye, ys, er, rt, kd, na, nb, vK, vA, vB, eN, eV, eX, fN, fS, fE, fV)) (h0 : ¬ dm_bad k a b → post 0 (yB, yD, nI (n + 1), yc, yo, yu, ya, yp, yr, yh, ye, ys, er, rt, upd kd n k, upd na n a, upd nb n b, vK, vA, vB, eN, eV, eX, fN, fS, fE, fV)) : wpY_node post (yB, yD, nI n, yc, yo, yu, ya, yp, yr, yh, ye, ys, er, rt, kd, na, nb, vK, vA, vB, eN, eV, eX, fN, fS, fE, fV) k a b := by
  unfold wpY_node
  refine y_isC P (fun g => absurd g e) (fun _ => br_t rfl (br_t (nI_lt (b := 32) hn (by omega)) (br_f k1 (br_t k2 (y_ndk h1 (fun z => ?_))))))
  have hin : vp_in (nI n) 33 := vp_in_nI (by omega) (by omega)
  refine ⟨hin, ?_⟩
  rw [nI_clamp (by omega)]
  exact nm_e ⟨hin, nm_e ⟨hin, nm_e (nm_r (nI_1 n) (h0 z))⟩⟩
end
theorem dm_Pg_s {kd na nb : Nat → Int32} {n : Nat} {k a b : Int32} (P : dm_Pg kd na nb n) (hn : n < 32) (hO : ¬ dm_O kd n = 0) (hk : dm_kk k) (hb : ¬ dm_bad k a b) : dm_Pg (upd kd n k) (upd na n a) (upd nb n b) (n + 1) := by
  obtain ⟨p1, p2, p3⟩ := P
  refine ⟨by omega, fun j hj => ?_, fun j hj => ?_⟩
  · have e : dm_O (upd kd n k) j = dm_O kd j := dm_O_c j (fun i hi => pk_un (by omega))
    rw [e]
    rcases Nat.eq_or_lt_of_le (show j ≤ n by omega) with z | z
    · subst z
      omega
    · exact p2 j z
  · rcases Nat.eq_or_lt_of_le (show j ≤ n by omega) with z | z
    · subst z
      rw [pk_us, pk_us, pk_us]
      refine ⟨hk, fun h => dm_nm_N (Classical.not_not.mp (fun g => hb (Or.inl ⟨h, g⟩))), fun h => dm_nm_N (Classical.not_not.mp (fun g => hb (Or.inr ⟨h, g⟩)))⟩
    · rw [pk_un (by omega), pk_un (by omega), pk_un (by omega)]
      exact p3 j z
theorem dm_O_s {kd : Nat → Int32} {n : Nat} {k : Int32} : dm_O (upd kd n k) (n + 1) = dm_O kd n + dm_ar k - 1 := by
  rw [dm_Os, pk_us, dm_O_c (kd' := kd) n (fun i hi => pk_un (by omega))]
theorem i_vc_node {k : Nat} {u : SX} {v : SY} (I : i_Rel k u v) (hk : k + 4 ≤ 2050) (v1 : Int32) (v2 : Int32) (v3 : Int32) : wpX_node (fun r u' => wpY_node (fun r' v' => r' = r ∧ i_Rel (k + 4) u' v') v v1 v2 v3) u v1 v2 v3 := by
  have J := I
  obtain ⟨xB, xD, xn, xo, xc, xl, oc, xu, xa, pk, xr, xw, en, cn, cb, cv, kd, na, nb, se, fn, tg, tn, pF, pS, cT, cB, bo, wN, wF, wB, wV⟩ := u
  obtain ⟨yB, yD, yn, yc, yo, yu, ya, yp, yr, yh, ye, ys, er, rt, yk, ym, yb, vK, vA, vB, eN, eV, eX, fN, fS, fE, fV⟩ := v
  obtain ⟨B, D, n, rfl, rfl, rfl, rfl, rfl, rfl, rfl, rfl, rfl, rfl, rfl, rfl, rfl, rfl, b1, b2, d1, d2, P, R⟩ := I
  have hb := dm_O_b yk n
  have hn := P.1
  by_cases e : dm_O yk n = 0
  · exact br_t (by rw [e]; rfl) (y_node1 P e ⟨rfl, J⟩)
  refine br_f (nI_ne0 (by omega) (by omega)) ?_
  by_cases hn2 : n < 32
  · refine br_t (nI_lt (b := 32) hn2 (by omega)) ?_
    by_cases k1 : v1 < 1
    · exact br_t k1 (y_node3 P e hn2 (Or.inl k1) ⟨rfl, J⟩)
    refine br_f k1 ?_
    by_cases k2 : v1 ≤ 16
    · refine br_t k2 ?_
      have hkk : dm_kk v1 := by
        have h0 : ¬ v1 < 0 := fun z => k1 (Int32.lt_trans z (by decide))
        obtain ⟨q, hq, rfl⟩ := nI_of h0
        exact ⟨q, Nat.le_of_not_lt (fun z => k1 (nI_lt (b := 1) z (by omega))), (nI_leI (b := 16) hq (by omega)).mp k2, rfl⟩
      refine x_bad (fun z => ?_) (fun z => ?_)
      · exact br_f (by decide) (y_node0 P e hn2 k1 k2 (fun _ => ⟨rfl, J⟩) (fun w => absurd z w))
      · refine br_t rfl ?_
        have hin : vp_in (nI n) 32 := vp_in_nI (by omega) (by omega)
        refine ⟨hin, ?_⟩
        rw [nI_clamp (by omega)]
        refine nm_e ⟨hin, nm_e ⟨hin, nm_e (nm_r (nI_1 n) (x_cc hkk (nm_r (dm_opn (by omega)) (y_node0 P e hn2 k1 k2 (fun w => absurd w z) (fun _ => ⟨rfl, ?_⟩)))))⟩⟩
        have hc : yc = 0 ∧ xl = 0 ∧ xr = 0 ∧ yr = -1 := by
          rcases R with h | h
          · exact h
          · exact absurd h.2.2.1.1 e
        exact ⟨B, D, n + 1, rfl, rfl, rfl, rfl, rfl, rfl, by rw [dm_O_s], rfl, rfl, rfl, rfl, rfl, rfl, rfl, b1, b2, d1, d2, dm_Pg_s P hn2 e hkk z, Or.inl hc⟩
    · exact br_f k2 (y_node3 P e hn2 (Or.inr ⟨k1, k2⟩) ⟨rfl, J⟩)
  · have e32 : n = 32 := by omega
    subst e32
    exact br_f (by decide) (y_node2 P e ⟨rfl, J⟩)
end
section
/-! X's compile -/
theorem dm_one : ∀ y, y < 8 → ∀ x, x < 32 → bt ((1 : Int32) <<< (nI y &&& 31)) x = decide (x = y) := by decide +kernel
theorem dm_not (w : Int32) {x : Nat} (hx : x < 32) : bt (w ^^^ (-1)) x = !bt w x := by
  rw [b_xor, b_m1 x hx]
  cases bt w x <;> rfl
theorem dm_nIe {x y : Nat} (hx : x < 32) (hy : y < 32) : nI y = nI x ↔ x = y := by
  rw [nI_eq (by omega) (by omega)]
  exact eq_comm
def dm_fl (kd na nb fn : Nat → Int32) (l : Nat) : Int32 := fn (l + 1) &&& ((if kd l = 15 then ((1 : Int32) <<< (na l &&& 31)) ||| ((1 : Int32) <<< (nb l &&& 31)) else ((1 : Int32) <<< (na l &&& 31))) ^^^ (-1))
noncomputable def dm_fu (kd na fn : Nat → Int32) (i : Nat) : Int32 := fn (dm_ch kd i 1) &&& (((1 : Int32) <<< (na i &&& 31)) ^^^ (-1))
section
variable {kd na nb fn : Nat → Int32} {n i x : Nat}
theorem dm_fl_b (P : dm_Pg kd na nb n) (hi : i < n) (hk : kd i = 13 ∨ kd i = 15) (hx : x < 32) : bt (dm_fl kd na nb fn i) x = true ↔ bt (fn (i + 1)) x = true ∧ ¬ dm_bd kd na nb i 0 (nI x) := by
  obtain ⟨_, pa, pb⟩ := P.2.2 i hi
  obtain ⟨y, hy, ey⟩ := pa (by rcases hk with h | h <;> simp [h])
  unfold dm_fl
  rw [b_and, dm_not _ hx]
  rcases hk with h | h
  · rw [if_neg (by rw [h]; decide), ey, dm_one y hy x hx]
    have e : dm_bd kd na nb i 0 (nI x) ↔ x = y := by
      unfold dm_bd
      rw [h, ey, dm_nIe hx (by omega)]
      constructor
      · rintro (⟨_, _, g⟩ | ⟨g, _⟩ | ⟨g, _⟩)
        · exact g
        · exact absurd g (by decide)
        · exact absurd g (by decide)
      · exact fun g => Or.inl ⟨rfl, rfl, g⟩
    rw [e]
    simp
  · obtain ⟨z, hz, ez⟩ := pb h
    rw [if_pos h, ey, ez, b_or, dm_one y hy x hx, dm_one z hz x hx]
    have e : dm_bd kd na nb i 0 (nI x) ↔ (x = y ∨ x = z) := by
      unfold dm_bd
      rw [h, ey, ez, dm_nIe hx (by omega), dm_nIe hx (by omega)]
      constructor
      · rintro (⟨g, _⟩ | ⟨g, _⟩ | ⟨_, ⟨_, g⟩ | ⟨g, _⟩⟩)
        · exact absurd g (by decide)
        · exact absurd g (by decide)
        · exact g
        · omega
      · exact fun g => Or.inr (Or.inr ⟨rfl, Or.inl ⟨rfl, g⟩⟩)
    rw [e]
    simp
theorem dm_fu_b (P : dm_Pg kd na nb n) (hi : i < n) (hk : kd i = 14 ∨ kd i = 15) (hx : x < 32) : bt (dm_fu kd na fn i) x = true ↔ bt (fn (dm_ch kd i 1)) x = true ∧ ¬ dm_bd kd na nb i 1 (nI x) := by
  obtain ⟨_, pa, pb⟩ := P.2.2 i hi
  obtain ⟨y, hy, ey⟩ := pa (by rcases hk with h | h <;> simp [h])
  unfold dm_fu
  rw [b_and, dm_not _ hx, ey, dm_one y hy x hx]
  have e : dm_bd kd na nb i 1 (nI x) ↔ x = y := by
    unfold dm_bd
    rw [ey, dm_nIe hx (by omega)]
    constructor
    · rintro (⟨_, g, _⟩ | ⟨_, _, g⟩ | ⟨_, ⟨g, _⟩ | ⟨_, g⟩⟩)
      · omega
      · exact g
      · omega
      · exact g
    · intro g
      rcases hk with h | h
      · exact Or.inr (Or.inl ⟨h, rfl, g⟩)
      · exact Or.inr (Or.inr ⟨h, Or.inr ⟨rfl, g⟩⟩)
  rw [e]
  simp
/-- what freeNames holds at one node -/
def dm_FNi (kd na nb fn : Nat → Int32) (i : Nat) (w : Int32) : Prop := ∀ x, x < 32 → (bt w x = true ↔ ((kd i = 2 ∧ na i = nI x) ∨ ∃ c, c < dm_ar (kd i) ∧ bt (fn (dm_ch kd i c)) x = true ∧ ¬ dm_bd kd na nb i c (nI x)))
theorem dm_FNi_var (P : dm_Pg kd na nb n) (hi : i < n) (hk : kd i = 2) : dm_FNi kd na nb fn i ((1 : Int32) <<< (na i &&& 31)) := by
  obtain ⟨_, pa, pb⟩ := P.2.2 i hi
  obtain ⟨y, hy, ey⟩ := pa (Or.inl hk)
  intro x hx
  rw [ey, dm_one y hy x hx, dm_nIe hx (by omega)]
  have ea : dm_ar (kd i) = 0 := by
    rw [hk]
    decide
  rw [ea]
  constructor
  · intro g
    exact Or.inl ⟨hk, of_decide_eq_true g⟩
  · rintro (⟨_, g⟩ | ⟨c, g, _⟩)
    · exact decide_eq_true g
    · omega
theorem dm_FNi_fun (P : dm_Pg kd na nb n) (hi : i < n) (hk : kd i = 13) : dm_FNi kd na nb fn i (dm_fl kd na nb fn i) := by
  intro x hx
  rw [dm_fl_b P hi (Or.inl hk) hx]
  have ea : dm_ar (kd i) = 1 := by
    rw [hk]
    decide
  rw [ea]
  constructor
  · exact fun g => Or.inr ⟨0, by omega, g.1, g.2⟩
  · rintro (⟨g, _⟩ | ⟨c, g, g2⟩)
    · rw [hk] at g
      exact absurd g (by decide)
    · have : c = 0 := by omega
      subst this
      exact g2
theorem dm_FNi_let (P : dm_Pg kd na nb n) (hi : i < n) (hk : kd i = 14) : dm_FNi kd na nb fn i (fn (i + 1) ||| dm_fu kd na fn i) := by
  intro x hx
  have ea : dm_ar (kd i) = 2 := by
    rw [hk]
    decide
  have nb0 : ¬ dm_bd kd na nb i 0 (nI x) := by
    unfold dm_bd
    rw [hk]
    rintro (⟨g, _⟩ | ⟨_, g, _⟩ | ⟨g, _⟩)
    · exact absurd g (by decide)
    · omega
    · exact absurd g (by decide)
  rw [b_or, Bool.or_eq_true, dm_fu_b P hi (Or.inl hk) hx, ea]
  constructor
  · rintro (g | g)
    · exact Or.inr ⟨0, by omega, g, nb0⟩
    · exact Or.inr ⟨1, by omega, g.1, g.2⟩
  · rintro (⟨g, _⟩ | ⟨c, g, g2⟩)
    · rw [hk] at g
      exact absurd g (by decide)
    · rcases (show c = 0 ∨ c = 1 by omega) with e | e
      · subst e
        exact Or.inl g2.1
      · subst e
        exact Or.inr g2
theorem dm_FNi_rec (P : dm_Pg kd na nb n) (hi : i < n) (hk : kd i = 15) : dm_FNi kd na nb fn i (dm_fl kd na nb fn i ||| dm_fu kd na fn i) := by
  intro x hx
  have ea : dm_ar (kd i) = 2 := by
    rw [hk]
    decide
  rw [b_or, Bool.or_eq_true, dm_fl_b P hi (Or.inr hk) hx, dm_fu_b P hi (Or.inr hk) hx, ea]
  constructor
  · rintro (g | g)
    · exact Or.inr ⟨0, by omega, g.1, g.2⟩
    · exact Or.inr ⟨1, by omega, g.1, g.2⟩
  · rintro (⟨g, _⟩ | ⟨c, g, g2⟩)
    · rw [hk] at g
      exact absurd g (by decide)
    · rcases (show c = 0 ∨ c = 1 by omega) with e | e
      · subst e
        exact Or.inl g2
      · subst e
        exact Or.inr g2
theorem dm_FNi_oth {w : Int32} (k2 : ¬ kd i = 2) (k13 : ¬ kd i = 13) (k14 : ¬ kd i = 14) (k15 : ¬ kd i = 15) (h : ∀ x, x < 32 → (bt w x = true ↔ ∃ c, c < dm_ar (kd i) ∧ bt (fn (dm_ch kd i c)) x = true)) : dm_FNi kd na nb fn i w := by
  intro x hx
  have nb0 : ∀ c, ¬ dm_bd kd na nb i c (nI x) := by
    intro c
    rintro (⟨g, _⟩ | ⟨g, _⟩ | ⟨g, _⟩)
    · exact k13 g
    · exact k14 g
    · exact k15 g
  rw [h x hx]
  constructor
  · rintro ⟨c, g1, g2⟩
    exact Or.inr ⟨c, g1, g2, nb0 c⟩
  · rintro (⟨g, _⟩ | ⟨c, g1, g2, _⟩)
    · exact absurd g k2
    · exact ⟨c, g1, g2⟩
end
section
variable {xB xD xn xo xc xl oc xu xa pk xw en cn cb : Int32} {xr cv : Int64} {se fn tg tn cT cB wN wF wB : Nat → Int32} {pF pS bo wV : Nat → Int64} {kd na nb : Nat → Int32} {n i : Nat}
theorem x_meas17 {post : SX → Prop} (P : dm_Pg kd na nb n) (T : dm_Tr kd n) (hi : i < n) (S : ∀ j, i < j → j < n → se j = nI (dm_E kd j)) (h : post (xB, xD, xn, xo, xc, xl, oc, xu, xa, pk, xr, xw, en, cn, cb, cv, kd, na, nb, upd se i (nI (dm_E kd i)), fn, tg, tn, pF, pS, cT, cB, bo, wN, wF, wB, wV)) : ∀ d c, c + d = dm_ar (kd i) → wX_measureSubtree_17 post (nI i) (nI (dm_ar (kd i))) xB xD xn xo xc xl oc xu xa pk xr xw en cn cb cv kd na nb se fn tg tn pF pS cT cB bo wN wF wB wV (d + 1) (nI (dm_ch kd i c)) (nI c) := by
  have hn := P.1
  have h3 := dm_ar3 (kd i)
  intro d
  induction d with
  | zero =>
    intro c hc
    have e : c = dm_ar (kd i) := by omega
    subst e
    rw [← dm_ch_E T hi]
    refine br_t (nI_le (Nat.le_refl _) (by omega)) ⟨vp_in_nI (by omega) (by omega), ?_⟩
    rw [nI_clamp (by omega)]
    exact nm_e h
  | succ d ih =>
    intro c hc
    have hl := dm_ch_lt T hi (c := c) (by omega)
    have hg := dm_ch_gt T hi (c := c) (by omega)
    refine br_f (nI_ge (by omega) (by omega)) ⟨vp_in_nI (by omega) (by omega), nm_r ?_ (nm_r (nI_1 c) (ih (c + 1) (by omega)))⟩
    rw [nI_clamp (by omega), S _ hg hl, dm_chs]
theorem x_meas {post : SX → Prop} (P : dm_Pg kd na nb n) (T : dm_Tr kd n) (hi : i < n) (S : ∀ j, i < j → j < n → se j = nI (dm_E kd j)) (h : post (xB, xD, xn, xo, xc, xl, oc, xu, xa, pk, xr, xw, en, cn, cb, cv, kd, na, nb, upd se i (nI (dm_E kd i)), fn, tg, tn, pF, pS, cT, cB, bo, wN, wF, wB, wV)) : wpX_measureSubtree post (xB, xD, xn, xo, xc, xl, oc, xu, xa, pk, xr, xw, en, cn, cb, cv, kd, na, nb, se, fn, tg, tn, pF, pS, cT, cB, bo, wN, wF, wB, wV) (nI i) := by
  have hn := P.1
  refine ⟨vp_in_nI (by omega) (by omega), ?_⟩
  rw [nI_clamp (by omega)]
  refine x_cc (dm_Pgk P hi) (nm_r (nI_1 i) ⟨dm_ar (kd i) + 1, ?_⟩)
  exact x_meas17 P T hi S h (dm_ar (kd i)) 0 (by omega)
theorem x_fl {post : Int32 → Prop} {l : Nat} (hl : l + 1 < 32) (h : post (dm_fl kd na nb fn l)) : wpX_freeInLambda post (xB, xD, xn, xo, xc, xl, oc, xu, xa, pk, xr, xw, en, cn, cb, cv, kd, na, nb, se, fn, tg, tn, pF, pS, cT, cB, bo, wN, wF, wB, wV) (nI l) := by
  have hin : vp_in (nI l) 32 := vp_in_nI (by omega) (by omega)
  have hin2 : vp_in (nI l + 1) 32 := by
    rw [nI_1]
    exact vp_in_nI (by omega) (by omega)
  refine ⟨hin, ?_⟩
  rw [nI_clamp (by omega)]
  refine nm_e ⟨hin, ?_⟩
  unfold dm_fl at h
  by_cases c : kd l = 15
  · rw [if_pos c] at h
    refine br_t c ⟨hin, nm_e ⟨hin2, ?_⟩⟩
    rw [nI_1, nI_clamp (by omega)]
    exact h
  · rw [if_neg c] at h
    refine br_f c ⟨hin2, ?_⟩
    rw [nI_1, nI_clamp (by omega)]
    exact h
theorem x_sec {post : Int32 → Prop} (hn : n ≤ 32) (hi : i + 1 < n) (S : se (i + 1) = nI (dm_E kd (i + 1))) (h : post (nI (dm_ch kd i 1))) : wpX_secondChild post (xB, xD, xn, xo, xc, xl, oc, xu, xa, pk, xr, xw, en, cn, cb, cv, kd, na, nb, se, fn, tg, tn, pF, pS, cT, cB, bo, wN, wF, wB, wV) (nI i) := by
  refine ⟨?_, ?_⟩
  · rw [nI_1]
    exact vp_in_nI (by omega) (by omega)
  · rw [nI_1, nI_clamp (by omega), S]
    exact h
theorem x_fu {post : Int32 → Prop} (P : dm_Pg kd na nb n) (T : dm_Tr kd n) (hi : i < n) (ha : dm_ar (kd i) = 2) (S : ∀ j, i < j → j < n → se j = nI (dm_E kd j)) (h : post (dm_fu kd na fn i)) : wpX_freeUnderBinding post (xB, xD, xn, xo, xc, xl, oc, xu, xa, pk, xr, xw, en, cn, cb, cv, kd, na, nb, se, fn, tg, tn, pF, pS, cT, cB, bo, wN, wF, wB, wV) (nI i) := by
  have hn := P.1
  have h0 := dm_ch_lt T hi (c := 0) (by omega)
  have h1 := dm_ch_lt T hi (c := 1) (by omega)
  rw [dm_ch0] at h0
  unfold wpX_freeUnderBinding
  refine x_sec hn h0 (S _ (by omega) h0) ⟨vp_in_nI (by omega) (by omega), vp_in_nI (by omega) (by omega), ?_⟩
  rw [nI_clamp (by omega), nI_clamp (by omega)]
  exact h
theorem x_fc20 {post : Int32 → Prop} (P : dm_Pg kd na nb n) (T : dm_Tr kd n) (hi : i < n) (S : ∀ j, i < j → j < n → se j = nI (dm_E kd j)) (h : ∀ w, (∀ x, x < 32 → (bt w x = true ↔ ∃ c, c < dm_ar (kd i) ∧ bt (fn (dm_ch kd i c)) x = true)) → post w) : ∀ d c w, c + d = dm_ar (kd i) → (∀ x, x < 32 → (bt w x = true ↔ ∃ c', c' < c ∧ bt (fn (dm_ch kd i c')) x = true)) → wX_freeInChildren_20 post (nI (dm_ar (kd i))) xB xD xn xo xc xl oc xu xa pk xr xw en cn cb cv kd na nb se fn tg tn pF pS cT cB bo wN wF wB wV (d + 1) w (nI (dm_ch kd i c)) (nI c) := by
  have hn := P.1
  have h3 := dm_ar3 (kd i)
  intro d
  induction d with
  | zero =>
    intro c w hc hw
    have e : c = dm_ar (kd i) := by omega
    subst e
    exact br_t (nI_le (Nat.le_refl _) (by omega)) (h w hw)
  | succ d ih =>
    intro c w hc hw
    have hl := dm_ch_lt T hi (c := c) (by omega)
    have hg := dm_ch_gt T hi (c := c) (by omega)
    have hin : vp_in (nI (dm_ch kd i c)) 32 := vp_in_nI (by omega) (by omega)
    refine br_f (nI_ge (by omega) (by omega)) ⟨hin, ?_⟩
    rw [nI_clamp (by omega), S _ hg hl]
    refine nm_e ⟨hin, nm_e (nm_r (nI_1 c) (ih (c + 1) _ (by omega) (fun x hx => ?_)))⟩
    rw [b_or, Bool.or_eq_true, hw x hx]
    constructor
    · rintro (⟨c', g1, g2⟩ | g)
      · exact ⟨c', by omega, g2⟩
      · exact ⟨c, by omega, g⟩
    · rintro ⟨c', g1, g2⟩
      rcases Nat.eq_or_lt_of_le (show c' ≤ c by omega) with z | z
      · subst z
        exact Or.inr g2
      · exact Or.inl ⟨c', z, g2⟩
theorem x_fn {post : Int32 → Prop} (P : dm_Pg kd na nb n) (T : dm_Tr kd n) (hi : i < n) (S : ∀ j, i < j → j < n → se j = nI (dm_E kd j)) (h : ∀ w, dm_FNi kd na nb fn i w → post w) : wpX_freeInNode post (xB, xD, xn, xo, xc, xl, oc, xu, xa, pk, xr, xw, en, cn, cb, cv, kd, na, nb, se, fn, tg, tn, pF, pS, cT, cB, bo, wN, wF, wB, wV) (nI i) := by
  have hn := P.1
  have hin : vp_in (nI i) 32 := vp_in_nI (by omega) (by omega)
  refine ⟨hin, ?_⟩
  rw [nI_clamp (by omega)]
  refine nm_e ?_
  by_cases k2 : kd i = 2
  · exact br_t k2 ⟨hin, h _ (dm_FNi_var P hi k2)⟩
  refine br_f k2 ?_
  by_cases k13 : kd i = 13
  · have h0 := dm_ch_lt T hi (c := 0) (by rw [k13]; decide)
    rw [dm_ch0] at h0
    exact br_t k13 (x_fl (by omega) (h _ (dm_FNi_fun P hi k13)))
  refine br_f k13 ?_
  by_cases k14 : kd i = 14
  · have h0 := dm_ch_lt T hi (c := 0) (by rw [k14]; decide)
    rw [dm_ch0] at h0
    refine br_t k14 ⟨?_, ?_⟩
    · rw [nI_1]
      exact vp_in_nI (by omega) (by omega)
    · refine x_fu P T hi (by rw [k14]; decide) S ?_
      rw [nI_1, nI_clamp (by omega)]
      exact h _ (dm_FNi_let P hi k14)
  refine br_f k14 ?_
  by_cases k15 : kd i = 15
  · have h0 := dm_ch_lt T hi (c := 0) (by rw [k15]; decide)
    rw [dm_ch0] at h0
    refine br_t k15 (x_fl (by omega) (x_fu P T hi (by rw [k15]; decide) S (h _ (dm_FNi_rec P hi k15))))
  refine br_f k15 ⟨hin, ?_⟩
  rw [nI_clamp (by omega)]
  refine x_cc (dm_Pgk P hi) (nm_r (nI_1 i) ⟨dm_ar (kd i) + 1, ?_⟩)
  refine x_fc20 P T hi S (fun w hw => h w (dm_FNi_oth k2 k13 k14 k15 hw)) (dm_ar (kd i)) 0 0 (by omega) (fun x hx => ?_)
  rw [b_0]
  constructor
  · intro g
    exact absurd g (by decide)
  · rintro ⟨c', g, _⟩
    omega
theorem x_ana7 {post : SX → Prop} (P : dm_Pg kd na nb n) (T : dm_Tr kd n) : ∀ (d : Nat) (se fn : Nat → Int32), d ≤ n → (∀ j, d ≤ j → j < n → se j = nI (dm_E kd j)) → (∀ j, d ≤ j → j < n → dm_FNi kd na nb fn j (fn j)) → (∀ se' fn', (∀ j, j < n → se' j = nI (dm_E kd j)) → dm_FN kd na nb n fn' → post (xB, xD, xn, xo, xc, xl, oc, xu, xa, pk, xr, xw, en, cn, cb, cv, kd, na, nb, se', fn', tg, tn, pF, pS, cT, cB, bo, wN, wF, wB, wV)) → wX_analyse_7 post (d + 1) (nI d - 1) xB xD xn xo xc xl oc xu xa pk xr xw en cn cb cv kd na nb se fn tg tn pF pS cT cB bo wN wF wB wV := by
  have hn := P.1
  intro d
  induction d with
  | zero =>
    intro se fn _ h1 h2 h
    exact br_t (by decide) (h se fn (fun j hj => h1 j (by omega) hj) (fun j hj => h2 j (by omega) hj))
  | succ d ih =>
    intro se fn hd h1 h2 h
    rw [nI_pred]
    refine br_f (nI_pos (by omega)) (x_meas P T (by omega) (fun j hj hjn => h1 j hj hjn) ?_)
    have h1' : ∀ j, d ≤ j → j < n → upd se d (nI (dm_E kd d)) j = nI (dm_E kd j) := by
      intro j h3 h4
      rcases Nat.eq_or_lt_of_le h3 with z | z
      · subst z
        rw [pk_us]
      · rw [pk_un (by omega), h1 j z h4]
    refine x_fn P T (i := d) (by omega) (fun j hj hjn => h1' j (by omega) hjn) (fun w hw => ⟨vp_in_nI (by omega) (by omega), ?_⟩)
    rw [nI_clamp (by omega)]
    refine nm_e (nm_r (show nI d + (-1) = nI d - 1 by grind) (ih (upd se d (nI (dm_E kd d))) (upd fn d w) (by omega) h1' (fun j h3 h4 => ?_) h))
    have key : ∀ c, c < dm_ar (kd j) → upd fn d w (dm_ch kd j c) = fn (dm_ch kd j c) := by
      intro c hc
      have := dm_ch_gt T h4 (Nat.le_of_lt hc)
      exact pk_un (by omega)
    have tr : ∀ w', dm_FNi kd na nb fn j w' → dm_FNi kd na nb (upd fn d w) j w' := by
      intro w' g x hx
      rw [g x hx]
      constructor
      · rintro (g1 | ⟨c, g1, g2, g3⟩)
        · exact Or.inl g1
        · exact Or.inr ⟨c, g1, by rw [key c g1]; exact g2, g3⟩
      · rintro (g1 | ⟨c, g1, g2, g3⟩)
        · exact Or.inl g1
        · exact Or.inr ⟨c, g1, by rw [key c g1] at g2; exact g2, g3⟩
    rcases Nat.eq_or_lt_of_le h3 with z | z
    · subst z
      rw [pk_us]
      exact tr w hw
    · rw [pk_un (by omega)]
      exact tr _ (h2 j z h4)
theorem x_ana {post : SX → Prop} (P : dm_Pg kd na nb n) (T : dm_Tr kd n) (h : ∀ se' fn', (∀ j, j < n → se' j = nI (dm_E kd j)) → dm_FN kd na nb n fn' → post (xB, xD, nI n, xo, xc, xl, oc, xu, xa, pk, xr, xw, en, cn, cb, cv, kd, na, nb, se', fn', tg, tn, pF, pS, cT, cB, bo, wN, wF, wB, wV)) : wpX_analyse post (xB, xD, nI n, xo, xc, xl, oc, xu, xa, pk, xr, xw, en, cn, cb, cv, kd, na, nb, se, fn, tg, tn, pF, pS, cT, cB, bo, wN, wF, wB, wV) := by
  refine nm_e ⟨n + 1, ?_⟩
  exact x_ana7 P T n se fn (Nat.le_refl _) (fun j h1 h2 => by omega) (fun j h1 h2 => by omega) h
theorem x_tag7 {post : SX → Prop} (P : dm_Pg kd na nb n) : ∀ (d k : Nat) (tg tn : Nat → Int32), k + d = n → (∀ i, i < k → (kd i = 13 ∨ kd i = 15) → tg i = nI (dm_cnt kd i) ∧ tn (dm_cnt kd i) = nI i) → (∀ tg' tn', (∀ i, i < n → (kd i = 13 ∨ kd i = 15) → tg' i = nI (dm_cnt kd i) ∧ tn' (dm_cnt kd i) = nI i) → post (xB, xD, nI n, xo, xc, nI (dm_cnt kd n), oc, xu, xa, pk, xr, xw, en, cn, cb, cv, kd, na, nb, se, fn, tg', tn', pF, pS, cT, cB, bo, wN, wF, wB, wV)) →
    wX_giveTags_7 post xB xD (nI n) xo xc oc xu xa pk xr xw en cn cb cv (d + 1) (nI k) (nI (dm_cnt kd k)) kd na nb se fn tg tn pF pS cT cB bo wN wF wB wV := by
  have hn := P.1
  intro d
  induction d with
  | zero =>
    intro k tg tn hk h1 h
    have e : k = n := by omega
    subst e
    exact br_t (nI_le (Nat.le_refl _) (by omega)) (h tg tn h1)
  | succ d ih =>
    intro k tg tn hk h1 h
    have hin : vp_in (nI k) 32 := vp_in_nI (by omega) (by omega)
    have hcl := dm_cnt_le kd k
    refine br_f (nI_ge (by omega) (by omega)) ⟨hin, ?_⟩
    have lam : (kd k = 13 ∨ kd k = 15) → wX_giveTags_37 post (wX_giveTags_7 post xB xD (nI n) xo xc oc xu xa pk xr xw en cn cb cv (d + 1)) (nI k) xB xD (nI n) xo xc (nI (dm_cnt kd k)) oc xu xa pk xr xw en cn cb cv kd na nb se fn tg tn pF pS cT cB bo wN wF wB wV := by
      intro hl
      refine ⟨hin, ?_⟩
      rw [nI_clamp (by omega)]
      refine nm_e ⟨vp_in_nI (by omega) (by omega), ?_⟩
      rw [nI_clamp (by omega)]
      refine nm_e (nm_r (nI_1 _) (nm_r (nI_1 k) ?_))
      rw [← dm_cnt_t hl]
      refine ih (k + 1) _ _ (by omega) (fun i hi hil => ?_) h
      rcases Nat.eq_or_lt_of_le (show i ≤ k by omega) with z | z
      · subst z
        rw [pk_us, pk_us]
        exact ⟨rfl, rfl⟩
      · have := dm_cnt_lt z hil
        rw [pk_un (by omega), pk_un (by omega)]
        exact h1 i z hil
    rw [nI_clamp (by omega)]
    by_cases k13 : kd k = 13
    · exact br_t k13 (lam (Or.inl k13))
    refine br_f k13 ⟨hin, ?_⟩
    by_cases k15 : kd k = 15
    · exact br_t k15 (lam (Or.inr k15))
    refine br_f k15 (nm_r (nI_1 k) ?_)
    have nl : ¬ (kd k = 13 ∨ kd k = 15) := fun z => z.elim k13 k15
    rw [← dm_cnt_f nl]
    refine ih (k + 1) tg tn (by omega) (fun i hi hil => ?_) h
    rcases Nat.eq_or_lt_of_le (show i ≤ k by omega) with z | z
    · subst z
      exact absurd hil nl
    · exact h1 i z hil
theorem x_tag {post : SX → Prop} (P : dm_Pg kd na nb n) (h : ∀ tg' tn', (∀ i, i < n → (kd i = 13 ∨ kd i = 15) → tg' i = nI (dm_cnt kd i) ∧ tn' (dm_cnt kd i) = nI i) → post (xB, xD, nI n, xo, xc, nI (dm_cnt kd n), oc, xu, xa, pk, xr, xw, en, cn, cb, cv, kd, na, nb, se, fn, tg', tn', pF, pS, cT, cB, bo, wN, wF, wB, wV)) : wpX_giveTags post (xB, xD, nI n, xo, xc, xl, oc, xu, xa, pk, xr, xw, en, cn, cb, cv, kd, na, nb, se, fn, tg, tn, pF, pS, cT, cB, bo, wN, wF, wB, wV) := by
  refine ⟨n + 1, ?_⟩
  exact x_tag7 P n 0 tg tn (by omega) (fun i hi => absurd hi (Nat.not_lt_zero i)) h
end
end
section
/-! compile, lambdaCount, lambdaNode, freeVars -/
section
variable {yB yD yc yo yu ya yp yr yh ye ys er rt : Int32} {vK vA vB eN eV eX fN fS fE fV : Nat → Int32} {kd na nb : Nat → Int32} {n : Nat}
theorem y_cmp20 {post : Int32 → SY → Prop} (P : dm_Pg kd na nb n) (T : dm_Tr kd n) (h0 : (∀ v, v < n → kd v = 2 → ¬ dm_UB kd na nb n v 0 (na v)) → post 0 (yB, yD, nI n, 1, yo, yu, ya, yp, yr, yh, ye, ys, er, rt, kd, na, nb, vK, vA, vB, eN, eV, eX, fN, fS, fE, fV)) (h6 : (∃ v, v < n ∧ kd v = 2 ∧ dm_UB kd na nb n v 0 (na v)) → post 6 (yB, yD, nI n, yc, yo, yu, ya, yp, yr, yh, ye, ys, er, rt, kd, na, nb, vK, vA, vB, eN, eV, eX, fN, fS, fE, fV)) : ∀ d k, k + d = n → (∀ v, v < k → kd v = 2 → ¬ dm_UB kd na nb n v 0 (na v)) → wY_compile_20 post yB yD (nI n) yc yo yu ya yp yr yh ye ys er rt kd na nb vK vA vB eN eV eX fN fS fE fV (d + 1) (nI k) := by
  have hn := P.1
  intro d
  induction d with
  | zero =>
    intro k hk h
    have e : k = n := by omega
    subst e
    exact br_t (nI_le (Nat.le_refl _) (by omega)) (h0 h)
  | succ d ih =>
    intro k hk h
    refine br_f (nI_ge (by omega) (by omega)) ⟨vp_in_nI (by omega) (by omega), ?_⟩
    rw [nI_clamp (by omega)]
    by_cases k2 : kd k = 2
    · refine br_t k2 (y_bound P T (by omega) (dm_Tr_pos T) (Or.inl ⟨rfl, rfl⟩) (fun hU => ?_) (fun hU => ?_))
      · refine br_f (by decide) (nm_r (nI_1 k) (ih (k + 1) (by omega) (fun v hv hv2 => ?_)))
        rcases Nat.eq_or_lt_of_le (show v ≤ k by omega) with z | z
        · subst z
          exact hU
        · exact h v z hv2
      · exact br_t rfl (h6 ⟨k, by omega, k2, hU⟩)
    · refine br_f k2 (nm_r (nI_1 k) (ih (k + 1) (by omega) (fun v hv hv2 => ?_)))
      rcases Nat.eq_or_lt_of_le (show v ≤ k by omega) with z | z
      · subst z
        exact absurd hv2 k2
      · exact h v z hv2
theorem y_comp5 {post : Int32 → SY → Prop} (P : dm_Pg kd na nb n) (e : ¬ dm_O kd n = 0) (h : post 5 (yB, yD, nI n, 0, yo, yu, ya, yp, yr, yh, ye, ys, er, rt, kd, na, nb, vK, vA, vB, eN, eV, eX, fN, fS, fE, fV)) : wpY_compile post (yB, yD, nI n, 0, yo, yu, ya, yp, yr, yh, ye, ys, er, rt, kd, na, nb, vK, vA, vB, eN, eV, eX, fN, fS, fE, fV) := by
  unfold wpY_compile
  exact br_t rfl (y_isC P (fun g => absurd g e) (fun _ => br_t rfl h))
theorem y_comp {post : Int32 → SY → Prop} (P : dm_Pg kd na nb n) (T : dm_Tr kd n) (h0 : (∀ v, v < n → kd v = 2 → ¬ dm_UB kd na nb n v 0 (na v)) → post 0 (yB, yD, nI n, 1, yo, yu, ya, yp, yr, yh, ye, ys, er, rt, kd, na, nb, vK, vA, vB, eN, eV, eX, fN, fS, fE, fV)) (h6 : (∃ v, v < n ∧ kd v = 2 ∧ dm_UB kd na nb n v 0 (na v)) → post 6 (yB, yD, nI n, 0, yo, yu, ya, yp, yr, yh, ye, ys, er, rt, kd, na, nb, vK, vA, vB, eN, eV, eX, fN, fS, fE, fV)) : wpY_compile post (yB, yD, nI n, 0, yo, yu, ya, yp, yr, yh, ye, ys, er, rt, kd, na, nb, vK, vA, vB, eN, eV, eX, fN, fS, fE, fV) := by
  unfold wpY_compile
  refine br_t rfl (y_isC P (fun _ => br_f (by decide) ⟨n + 1, ?_⟩) (fun g => absurd T.2 g))
  exact y_cmp20 P T h0 h6 n 0 (by omega) (fun v hv => absurd hv (Nat.not_lt_zero v))
theorem y_isL {post : Int32 → Prop} {k : Nat} (hk : k < 33) (h1 : (kd k = 13 ∨ kd k = 15) → post 1) (h0 : ¬ (kd k = 13 ∨ kd k = 15) → post 0) : wpY_isLambda post (yB, yD, nI n, yc, yo, yu, ya, yp, yr, yh, ye, ys, er, rt, kd, na, nb, vK, vA, vB, eN, eV, eX, fN, fS, fE, fV) (nI k) := by
  have hin : vp_in (nI k) 33 := vp_in_nI (by omega) (by omega)
  refine ⟨hin, ?_⟩
  rw [nI_clamp (by omega)]
  by_cases k13 : kd k = 13
  · exact br_t k13 (h1 (Or.inl k13))
  refine br_f k13 ⟨hin, ?_⟩
  by_cases k15 : kd k = 15
  · exact br_t k15 (h1 (Or.inr k15))
  · exact br_f k15 (h0 (fun z => z.elim k13 k15))
theorem y_lc13 {post : Int32 → Prop} (hn : n ≤ 32) (h : post (nI (dm_cnt kd n))) : ∀ d k, k + d = n → wY_lambdaCount_13 post yB yD (nI n) yc yo yu ya yp yr yh ye ys er rt kd na nb vK vA vB eN eV eX fN fS fE fV (d + 1) (nI (dm_cnt kd k)) (nI k) := by
  intro d
  induction d with
  | zero =>
    intro k hk
    have e : k = n := by omega
    subst e
    exact br_t (nI_le (Nat.le_refl _) (by omega)) h
  | succ d ih =>
    intro k hk
    refine br_f (nI_ge (by omega) (by omega)) (y_isL (by omega) (fun z => ?_) (fun z => ?_))
    · refine br_f (by decide) (nm_r (nI_1 _) (nm_r (nI_1 k) ?_))
      rw [← dm_cnt_t z]
      exact ih (k + 1) (by omega)
    · refine br_t rfl (nm_r (nI_1 k) ?_)
      rw [← dm_cnt_f z]
      exact ih (k + 1) (by omega)
theorem y_ln17 {post : Int32 → Prop} {t : Nat} (hn : n ≤ 32) (ht : t < 2 ^ 31) (h1 : ∀ i, i < n → (kd i = 13 ∨ kd i = 15) → dm_cnt kd i = t → post (nI i)) (h0 : dm_cnt kd n ≤ t → post (-1)) : ∀ d k, k + d = n → dm_cnt kd k ≤ t → wY_lambdaNode_17 post (nI t) yB yD (nI n) yc yo yu ya yp yr yh ye ys er rt kd na nb vK vA vB eN eV eX fN fS fE fV (d + 1) (nI (dm_cnt kd k)) (nI k) := by
  intro d
  induction d with
  | zero =>
    intro k hk hc
    have e : k = n := by omega
    subst e
    exact br_t (nI_le (Nat.le_refl _) (by omega)) (h0 hc)
  | succ d ih =>
    intro k hk hc
    have hcl := dm_cnt_le kd k
    refine br_f (nI_ge (by omega) (by omega)) (y_isL (by omega) (fun z => ?_) (fun z => ?_))
    · refine br_f (by decide) ?_
      by_cases e : dm_cnt kd k = t
      · exact br_t (by rw [e]) (h1 k (by omega) z e)
      · refine br_f (fun w => e ((nI_eq (by omega) ht).mp w)) (nm_r (nI_1 _) (nm_r (nI_1 k) ?_))
        rw [← dm_cnt_t z]
        exact ih (k + 1) (by omega) (by rw [dm_cnt_t z]; omega)
    · refine br_t rfl (nm_r (nI_1 k) ?_)
      rw [← dm_cnt_f z]
      exact ih (k + 1) (by omega) (by rw [dm_cnt_f z]; omega)
theorem y_ln {post : Int32 → Prop} {t : Nat} (hn : n ≤ 32) (ht : t < 2 ^ 31) (h1 : ∀ i, i < n → (kd i = 13 ∨ kd i = 15) → dm_cnt kd i = t → post (nI i)) (h0 : dm_cnt kd n ≤ t → post (-1)) : wpY_lambdaNode post (yB, yD, nI n, 1, yo, yu, ya, yp, yr, yh, ye, ys, er, rt, kd, na, nb, vK, vA, vB, eN, eV, eX, fN, fS, fE, fV) (nI t) := by
  refine br_f (by decide) (br_t (nI_pos' ht) ⟨n + 1, ?_⟩)
  exact y_ln17 hn ht h1 h0 n 0 (by omega) (Nat.zero_le _)
theorem y_fv29 {post : Int32 → Prop} {l : Nat} (P : dm_Pg kd na nb n) (T : dm_Tr kd n) (hl : l < n) (hl1 : l + 1 < n) (ha : 0 < dm_ar (kd l)) (h : ∀ w, (∀ x, x < 32 → (bt w x = true ↔ ∃ v, l + 1 ≤ v ∧ v < dm_E kd (l + 1) ∧ kd v = 2 ∧ na v = nI x ∧ dm_UB kd na nb n v l (nI x))) → post w) :
    ∀ d k w, k + d = dm_E kd (l + 1) → l + 1 ≤ k → (∀ x, x < 32 → (bt w x = true ↔ ∃ v, l + 1 ≤ v ∧ v < k ∧ kd v = 2 ∧ na v = nI x ∧ dm_UB kd na nb n v l (nI x))) → wY_freeVars_29 post (nI l) (nI (dm_E kd (l + 1))) yB yD (nI n) yc yo yu ya yp yr yh ye ys er rt kd na nb vK vA vB eN eV eX fN fS fE fV (d + 1) w (nI k) := by
  have hn := P.1
  have hE := dm_E_le T hl1
  have hin := dm_ch_in T hl ha
  rw [dm_ch0] at hin
  intro d
  induction d with
  | zero =>
    intro k w hk hk2 hw
    have e : k = dm_E kd (l + 1) := by omega
    subst e
    exact br_t (nI_le (Nat.le_refl _) (by omega)) (h w hw)
  | succ d ih =>
    intro k w hk hk2 hw
    refine br_f (nI_ge (by omega) (by omega)) (br_f (nI_ge (by omega) (by omega)) ⟨vp_in_nI (by omega) (by omega), ?_⟩)
    rw [nI_clamp (by omega)]
    have step : ∀ Q : Prop, (¬ Q → ∀ x, ¬ (kd k = 2 ∧ na k = nI x ∧ dm_UB kd na nb n k l (nI x))) → ¬ Q → ∀ x, x < 32 → (bt w x = true ↔ ∃ v, l + 1 ≤ v ∧ v < k + 1 ∧ kd v = 2 ∧ na v = nI x ∧ dm_UB kd na nb n v l (nI x)) := by
      intro Q hQ nQ x hx
      rw [hw x hx]
      constructor
      · rintro ⟨v, g1, g2, g3⟩
        exact ⟨v, g1, by omega, g3⟩
      · rintro ⟨v, g1, g2, g3⟩
        rcases Nat.eq_or_lt_of_le (show v ≤ k by omega) with z | z
        · subst z
          exact absurd g3 (hQ nQ x)
        · exact ⟨v, g1, z, g3⟩
    by_cases k2 : kd k = 2
    · obtain ⟨y, hy, ey⟩ := (P.2.2 k (by omega)).2.1 (Or.inl k2)
      refine br_t k2 (y_bound P T (by omega) hl (Or.inr ⟨rfl, by omega, by omega⟩) (fun hU => ?_) (fun hU => ?_))
      · refine br_f (by decide) (nm_r (nI_1 k) (ih (k + 1) w (by omega) (by omega) (step False (fun _ x g => ?_) (fun z => z))))
        exact hU (g.2.1 ▸ g.2.2)
      · refine br_t rfl ⟨vp_in_nI (by omega) (by omega), ?_⟩
        refine nm_e (nm_r (nI_1 k) (ih (k + 1) _ (by omega) (by omega) (fun x hx => ?_)))
        rw [b_or, Bool.or_eq_true, hw x hx, ey, dm_one y hy x hx]
        constructor
        · rintro (⟨v, g1, g2, g3⟩ | g)
          · exact ⟨v, g1, by omega, g3⟩
          · have exy := of_decide_eq_true g
            subst exy
            exact ⟨k, hk2, by omega, k2, ey, ey ▸ hU⟩
        · rintro ⟨v, g1, g2, g3, g4, g5⟩
          rcases Nat.eq_or_lt_of_le (show v ≤ k by omega) with z | z
          · subst z
            rw [ey] at g4
            exact Or.inr (decide_eq_true ((dm_nIe hx (by omega)).mp g4))
          · exact Or.inl ⟨v, g1, z, g3, g4, g5⟩
    · exact br_f k2 (nm_r (nI_1 k) (ih (k + 1) w (by omega) (by omega) (step False (fun _ x g => k2 g.1) (fun z => z))))
theorem y_fv0 {post : Int32 → Prop} {t : Nat} (hn : n ≤ 32) (ht : t < 2 ^ 31) (g : dm_cnt kd n ≤ t) (h : post (-1)) : wpY_freeVars post (yB, yD, nI n, 1, yo, yu, ya, yp, yr, yh, ye, ys, er, rt, kd, na, nb, vK, vA, vB, eN, eV, eX, fN, fS, fE, fV) (nI t) := by
  unfold wpY_freeVars
  refine y_ln hn ht (fun i hi hl hc => ?_) (fun _ => br_f (by decide) h)
  have := dm_cnt_lt hi hl
  omega
theorem y_fv1 {post : Int32 → Prop} {t l : Nat} (P : dm_Pg kd na nb n) (T : dm_Tr kd n) (ht : t < 2 ^ 31) (hl : l < n) (hll : kd l = 13 ∨ kd l = 15) (hlc : dm_cnt kd l = t) (h : ∀ w, (∀ x, x < 32 → (bt w x = true ↔ ∃ v, l + 1 ≤ v ∧ v < dm_E kd (l + 1) ∧ kd v = 2 ∧ na v = nI x ∧ dm_UB kd na nb n v l (nI x))) → post w) : wpY_freeVars post (yB, yD, nI n, 1, yo, yu, ya, yp, yr, yh, ye, ys, er, rt, kd, na, nb, vK, vA, vB, eN, eV, eX, fN, fS, fE, fV) (nI t) := by
  have hn := P.1
  have ha : 0 < dm_ar (kd l) := by
    rcases hll with z | z <;> rw [z] <;> decide
  have hl1 := dm_ch_lt T hl (c := 0) ha
  rw [dm_ch0] at hl1
  have hcl := dm_cnt_lt hl hll
  unfold wpY_freeVars
  refine y_ln hn ht (fun i hi hil hc => ?_) (fun z => absurd z (by omega))
  have eil : i = l := by
    rcases Nat.lt_trichotomy i l with z | z | z
    · have := dm_cnt_lt z hil
      omega
    · exact z
    · have := dm_cnt_lt z hll
      omega
  subst eil
  refine br_t (nI_pos' (by omega)) (nm_r (nI_1 i) (y_sub P T hl1 ⟨dm_E kd (i + 1) - (i + 1) + 1, ?_⟩))
  have hgt := dm_E_gt T hl1
  refine y_fv29 P T hi hl1 ha h (dm_E kd (i + 1) - (i + 1)) (i + 1) 0 (by omega) (Nat.le_refl _) (fun x hx => ?_)
  rw [b_0]
  constructor
  · intro z
    exact absurd z (by decide)
  · rintro ⟨v, g1, g2, _⟩
    omega
theorem y_fvn {post : Int32 → Prop} {t : Int32} (h : post (-1)) : wpY_freeVars post (yB, yD, nI n, 0, yo, yu, ya, yp, yr, yh, ye, ys, er, rt, kd, na, nb, vK, vA, vB, eN, eV, eX, fN, fS, fE, fV) t := by
  unfold wpY_freeVars
  exact br_t rfl (br_f (by decide) h)
theorem y_fvm {post : Int32 → Prop} {t : Int32} (ht : t < 0) (h : post (-1)) : wpY_freeVars post (yB, yD, nI n, 1, yo, yu, ya, yp, yr, yh, ye, ys, er, rt, kd, na, nb, vK, vA, vB, eN, eV, eX, fN, fS, fE, fV) t := by
  unfold wpY_freeVars
  exact br_f (by decide) (br_f (Int32.not_le.mpr ht) (br_f (by decide) h))
end
theorem i_vc_compile {k : Nat} {u : SX} {v : SY} (I : i_Rel k u v) (hk : k + 4 ≤ 2050) : wpX_compile (fun r u' => wpY_compile (fun r' v' => r' = r ∧ i_Rel (k + 4) u' v') v) u := by
  have J := I
  obtain ⟨xB, xD, xn, xo, xc, xl, oc, xu, xa, pk, xr, xw, en, cn, cb, cv, kd, na, nb, se, fn, tg, tn, pF, pS, cT, cB, bo, wN, wF, wB, wV⟩ := u
  obtain ⟨yB, yD, yn, yc, yo, yu, ya, yp, yr, yh, ye, ys, er, rt, yk, ym, yb, vK, vA, vB, eN, eV, eX, fN, fS, fE, fV⟩ := v
  obtain ⟨B, D, n, rfl, rfl, rfl, rfl, rfl, rfl, rfl, rfl, rfl, rfl, rfl, rfl, rfl, rfl, b1, b2, d1, d2, P, R⟩ := I
  have hb := dm_O_b yk n
  have hn := P.1
  rcases R with ⟨rfl, rfl, rfl, rfl⟩ | ⟨rfl, rfl, C, R⟩
  · refine br_t rfl ?_
    by_cases e : dm_O yk n = 0
    · have T : dm_Tr yk n := ⟨P.2.1, e⟩
      refine br_t (by rw [e]; rfl) (x_ana P T (fun se' fn' hse F => ?_))
      have hpos := dm_Tr_pos T
      have hE0 := dm_E_0 T
      by_cases f0 : fn' 0 = 0
      · refine br_t f0 (x_tag P (fun tg' tn' ht => y_comp P T (fun _ => ⟨rfl, ?_⟩) (fun z => ?_)))
        · exact ⟨B, D, n, rfl, rfl, rfl, rfl, rfl, rfl, rfl, rfl, rfl, rfl, rfl, rfl, rfl, rfl, b1, b2, d1, d2, P, Or.inr ⟨rfl, rfl, ⟨e, hse, F, f0, ht⟩, Or.inl ⟨rfl, rfl⟩⟩⟩
        · exfalso
          obtain ⟨w, w1, w2, w3⟩ := z
          obtain ⟨y, hy, ey⟩ := (P.2.2 w w1).2.1 (Or.inl w2)
          have := (dm_FN_iff T F hpos (x := y) (by omega)).mpr ⟨w, by omega, by omega, w2, ey, ey ▸ w3⟩
          rw [f0, b_0] at this
          exact absurd this (by decide)
      · refine br_f f0 (y_comp P T (fun z => ?_) (fun _ => ⟨rfl, ?_⟩))
        · exfalso
          apply f0
          apply b_ext
          intro x hx
          rw [b_0]
          cases hbt : bt (fn' 0) x with
          | false => rfl
          | true =>
            obtain ⟨w, w1, w2, w3, w4, w5⟩ := (dm_FN_iff T F hpos hx).mp hbt
            exact absurd (w4 ▸ w5) (z w (by omega) w3)
        · exact ⟨B, D, n, rfl, rfl, rfl, rfl, rfl, rfl, rfl, rfl, rfl, rfl, rfl, rfl, rfl, rfl, b1, b2, d1, d2, P, Or.inl ⟨rfl, rfl, rfl, rfl⟩⟩
    · exact br_f (nI_ne0 (by omega) (by omega)) (y_comp5 P e ⟨rfl, J⟩)
  · exact br_f (by decide) (br_f (by decide) ⟨rfl, J⟩)
theorem i_vc_lambdaCount {k : Nat} {u : SX} {v : SY} (I : i_Rel k u v) (hk : k + 4 ≤ 2050) : wpX_lambdaCount (fun r => wpY_lambdaCount (fun r' => r' = r ∧ i_Rel (k + 4) u v) v) u := by
  have J := I
  obtain ⟨xB, xD, xn, xo, xc, xl, oc, xu, xa, pk, xr, xw, en, cn, cb, cv, kd, na, nb, se, fn, tg, tn, pF, pS, cT, cB, bo, wN, wF, wB, wV⟩ := u
  obtain ⟨yB, yD, yn, yc, yo, yu, ya, yp, yr, yh, ye, ys, er, rt, yk, ym, yb, vK, vA, vB, eN, eV, eX, fN, fS, fE, fV⟩ := v
  obtain ⟨B, D, n, rfl, rfl, rfl, rfl, rfl, rfl, rfl, rfl, rfl, rfl, rfl, rfl, rfl, rfl, b1, b2, d1, d2, P, R⟩ := I
  have hn := P.1
  rcases R with ⟨rfl, rfl, rfl, rfl⟩ | ⟨rfl, rfl, C, R⟩
  · exact br_t rfl ⟨rfl, J⟩
  · exact br_f (by decide) ⟨n + 1, y_lc13 hn ⟨rfl, J⟩ n 0 (by omega)⟩
theorem i_vc_lambdaNode {k : Nat} {u : SX} {v : SY} (I : i_Rel k u v) (hk : k + 4 ≤ 2050) (v1 : Int32) : wpX_lambdaNode (fun r => wpY_lambdaNode (fun r' => r' = r ∧ i_Rel (k + 4) u v) v v1) u v1 := by
  have J := I
  obtain ⟨xB, xD, xn, xo, xc, xl, oc, xu, xa, pk, xr, xw, en, cn, cb, cv, kd, na, nb, se, fn, tg, tn, pF, pS, cT, cB, bo, wN, wF, wB, wV⟩ := u
  obtain ⟨yB, yD, yn, yc, yo, yu, ya, yp, yr, yh, ye, ys, er, rt, yk, ym, yb, vK, vA, vB, eN, eV, eX, fN, fS, fE, fV⟩ := v
  obtain ⟨B, D, n, rfl, rfl, rfl, rfl, rfl, rfl, rfl, rfl, rfl, rfl, rfl, rfl, rfl, rfl, b1, b2, d1, d2, P, R⟩ := I
  have hn := P.1
  have hcl := dm_cnt_le yk n
  rcases R with ⟨rfl, rfl, rfl, rfl⟩ | ⟨rfl, rfl, C, R⟩
  · by_cases h : v1 < 0
    · exact br_t h (br_t rfl ⟨rfl, J⟩)
    · exact br_f h (br_f h (br_t rfl ⟨rfl, J⟩))
  · by_cases h : v1 < 0
    · exact br_t h (br_f (by decide) (br_f (Int32.not_le.mpr h) ⟨rfl, J⟩))
    · refine br_f h ?_
      obtain ⟨t, ht, rfl⟩ := nI_of h
      by_cases g : t < dm_cnt yk n
      · refine br_t (nI_lt g (by omega)) ⟨vp_in_nI (by omega) (by omega), ?_⟩
        rw [nI_clamp ht]
        refine y_ln hn ht (fun i hi hl hc => ⟨?_, J⟩) (fun z => by omega)
        rw [← hc]
        exact ((C.2.2.2.2 i hi hl).2).symm
      · refine br_f (nI_nlt (by omega) ht) (y_ln hn ht (fun i hi hl hc => ?_) (fun _ => ⟨rfl, J⟩))
        have := dm_cnt_lt hi hl
        omega
theorem i_vc_freeVars {k : Nat} {u : SX} {v : SY} (I : i_Rel k u v) (hk : k + 4 ≤ 2050) (v1 : Int32) : wpX_freeVars (fun r => wpY_freeVars (fun r' => r' = r ∧ i_Rel (k + 4) u v) v v1) u v1 := by
  have J := I
  obtain ⟨xB, xD, xn, xo, xc, xl, oc, xu, xa, pk, xr, xw, en, cn, cb, cv, kd, na, nb, se, fn, tg, tn, pF, pS, cT, cB, bo, wN, wF, wB, wV⟩ := u
  obtain ⟨yB, yD, yn, yc, yo, yu, ya, yp, yr, yh, ye, ys, er, rt, yk, ym, yb, vK, vA, vB, eN, eV, eX, fN, fS, fE, fV⟩ := v
  obtain ⟨B, D, n, rfl, rfl, rfl, rfl, rfl, rfl, rfl, rfl, rfl, rfl, rfl, rfl, rfl, rfl, b1, b2, d1, d2, P, R⟩ := I
  have hn := P.1
  have hcl := dm_cnt_le yk n
  rcases R with ⟨rfl, rfl, rfl, rfl⟩ | ⟨rfl, rfl, C, R⟩
  · by_cases h : v1 < 0
    · exact br_t h (y_fvn ⟨rfl, J⟩)
    · exact br_f h (br_f h (y_fvn ⟨rfl, J⟩))
  · have T : dm_Tr yk n := ⟨P.2.1, C.1⟩
    by_cases h : v1 < 0
    · exact br_t h (y_fvm h ⟨rfl, J⟩)
    · refine br_f h ?_
      obtain ⟨t, ht, rfl⟩ := nI_of h
      by_cases g : t < dm_cnt yk n
      · refine br_t (nI_lt g (by omega)) ⟨vp_in_nI (by omega) (by omega), ?_⟩
        rw [nI_clamp ht]
        have ex : ∃ i, i < n ∧ (yk i = 13 ∨ yk i = 15) ∧ dm_cnt yk i = t := dm_cnt_ex n t g
        obtain ⟨l, hl, hll, hlc⟩ := ex
        have el : tn t = nI l := by
          rw [← hlc]
          exact (C.2.2.2.2 l hl hll).2
        rw [el]
        have ha : 0 < dm_ar (yk l) := by
          rcases hll with z | z <;> rw [z] <;> decide
        have hl1 := dm_ch_lt T hl (c := 0) ha
        rw [dm_ch0] at hl1
        refine x_fl (by omega) (y_fv1 P T ht hl hll hlc (fun w hw => ⟨?_, J⟩))
        apply b_ext
        intro x hx
        rw [Bool.eq_iff_iff, hw x hx, dm_fl_b P hl hll hx, dm_FN_iff T C.2.2.1 hl1 hx]
        constructor
        · rintro ⟨v, g1, g2, g3, g4, g5⟩
          obtain ⟨u1, u2⟩ := dm_UB_dn T hl ha g1 g2 g5
          exact ⟨⟨v, g1, g2, g3, g4, u1⟩, u2⟩
        · rintro ⟨⟨v, g1, g2, g3, g4, g5⟩, g6⟩
          exact ⟨v, g1, g2, g3, g4, dm_UB_up T hl ha g1 g2 g5 g6⟩
      · exact br_f (nI_nlt (by omega) ht) (y_fv0 hn ht (by omega) ⟨rfl, J⟩)
end
section
/-! the reference's steps -/
def dm_kB (k : Int32) : Prop := k = 3 ∨ k = 4 ∨ k = 5 ∨ k = 6 ∨ k = 7 ∨ k = 8
theorem dm_kF_n {k : Int32} (h : dm_kF k) : ¬ k = 1 ∧ ¬ k = 2 ∧ ¬ k = 13 ∧ ¬ k = 15 := by
  rcases h with rfl | rfl | rfl | rfl | rfl | rfl | rfl | rfl | rfl | rfl | rfl | rfl <;> decide
theorem dm_kB_n {k : Int32} (h : dm_kB k) : ¬ k = 1 ∧ ¬ k = 2 ∧ ¬ k = 13 ∧ ¬ k = 15 ∧ ¬ k = 9 ∧ ¬ k = 11 ∧ ¬ k = 12 ∧ ¬ k = 14 ∧ ¬ k = 16 ∧ ¬ k = 10 := by
  rcases h with rfl | rfl | rfl | rfl | rfl | rfl <;> decide
theorem dm_kS_n {k : Int32} (h : dm_kS k) : ¬ k = 1 ∧ ¬ k = 2 ∧ ¬ k = 13 ∧ ¬ k = 15 ∧ ¬ k = 9 ∧ ¬ k = 11 ∧ ¬ k = 12 ∧ ¬ k = 14 := by
  rcases h with rfl | rfl | rfl | rfl | rfl | rfl | rfl | rfl <;> decide
/-- the two-place operators -/
def dm_bin (k a b : Int32) : Int32 := if k = 3 then a + b else if k = 4 then a - b else if k = 5 then a * b else if k = 6 then a / b else if k = 7 then (if b ≤ a then 0 else 1) else (if a = b then 1 else 0)
section
variable {yB yD yn yc yo yu ya yp yr yh ye ys er rt : Int32} {kd na nb vK vA vB eN eV eX fN fS fE fV : Nat → Int32} {j i c hp ep un B D a : Nat}
theorem y_alloc {post : Int32 → SY → Prop} {p0 p1 p2 : Int32} (hh : hp < 4096) (h : post (nI hp) (yB, yD, yn, yc, yo, yu, ya, yp, yr, nI (hp + 1), ye, ys, er, rt, kd, na, nb, upd vK hp p0, upd vA hp p1, upd vB hp p2, eN, eV, eX, fN, fS, fE, fV)) : wpY_alloc post (yB, yD, yn, yc, yo, yu, ya, yp, yr, nI hp, ye, ys, er, rt, kd, na, nb, vK, vA, vB, eN, eV, eX, fN, fS, fE, fV) p0 p1 p2 := by
  have hin : vp_in (nI hp) 4096 := vp_in_nI hh (by omega)
  have e : ∀ g : Nat → Int32, ∀ x, upd g (nI hp).toNatClampNeg x = upd g hp x := by
    intro g x
    rw [nI_clamp (by omega)]
  refine br_t (nI_lt (b := 4096) hh (by omega)) ⟨hin, nm_r (e _ _) ⟨hin, nm_r (e _ _) ⟨hin, nm_r (e _ _) (nm_r (nI_1 hp) ?_)⟩⟩⟩
  rw [nI_pred]
  exact h
theorem y_bnd {post : Int32 → SY → Prop} {p0 p1 p2 : Int32} (hh : ep < 256) (h : post (nI ep) (yB, yD, yn, yc, yo, yu, ya, yp, yr, yh, nI (ep + 1), ys, er, rt, kd, na, nb, vK, vA, vB, upd eN ep p0, upd eV ep p1, upd eX ep p2, fN, fS, fE, fV)) : wpY_bind post (yB, yD, yn, yc, yo, yu, ya, yp, yr, yh, nI ep, ys, er, rt, kd, na, nb, vK, vA, vB, eN, eV, eX, fN, fS, fE, fV) p0 p1 p2 := by
  have hin : vp_in (nI ep) 256 := vp_in_nI hh (by omega)
  have e : ∀ g : Nat → Int32, ∀ x, upd g (nI ep).toNatClampNeg x = upd g ep x := by
    intro g x
    rw [nI_clamp (by omega)]
  refine br_t (nI_lt (b := 256) hh (by omega)) ⟨hin, nm_r (e _ _) ⟨hin, nm_r (e _ _) ⟨hin, nm_r (e _ _) (nm_r (nI_1 ep) ?_)⟩⟩⟩
  rw [nI_pred]
  exact h
theorem y_push {post : SY → Prop} {p1 : Int32} {sp : Nat} (hs : sp < 512) (hc : c ≤ 32) (h : post (yB, yD, yn, yc, yo, yu, ya, yp, yr, yh, ye, nI (sp + 1), er, rt, kd, na, nb, vK, vA, vB, eN, eV, eX, upd fN sp (nI c), upd fS sp 0, upd fE sp p1, upd fV sp (-1))) : wpY_push post (yB, yD, yn, yc, yo, yu, ya, yp, yr, yh, ye, nI sp, er, rt, kd, na, nb, vK, vA, vB, eN, eV, eX, fN, fS, fE, fV) (nI c) p1 := by
  have hin : vp_in (nI sp) 512 := vp_in_nI hs (by omega)
  have e : ∀ g : Nat → Int32, ∀ x, upd g (nI sp).toNatClampNeg x = upd g sp x := by
    intro g x
    rw [nI_clamp (by omega)]
  exact br_f (nI_ge (b := 512) hs (by omega)) (br_f (nI_pos (by omega)) (br_t (nI_le (b := 32) hc (by omega)) ⟨hin, nm_r (e _ _) ⟨hin, nm_r (e _ _) ⟨hin, nm_r (e _ _) ⟨hin, nm_r (e _ _) (nm_r (nI_1 sp) h)⟩⟩⟩⟩))
theorem y_sp12 {post : Int32 → SY → Prop} (h : post 0 (nI B, yD, yn, yc, yo, nI B, ya, yp, yr, yh, ye, ys, 12, rt, kd, na, nb, vK, vA, vB, eN, eV, eX, fN, fS, fE, fV)) : wpY_spend post (nI B, yD, yn, yc, yo, nI B, ya, yp, yr, yh, ye, ys, er, rt, kd, na, nb, vK, vA, vB, eN, eV, eX, fN, fS, fE, fV) := br_t rfl h
theorem y_sp0 {post : Int32 → SY → Prop} (hu : un < B) (hB : B ≤ 64) (h : post 1 (nI B, yD, yn, yc, yo, nI (un + 1), ya, yp, yr, yh, ye, ys, er, rt, kd, na, nb, vK, vA, vB, eN, eV, eX, fN, fS, fE, fV)) : wpY_spend post (nI B, yD, yn, yc, yo, nI un, ya, yp, yr, yh, ye, ys, er, rt, kd, na, nb, vK, vA, vB, eN, eV, eX, fN, fS, fE, fV) :=
  br_f (fun e => by have := (nI_eq (by omega) (by omega)).mp e; omega) (nm_r (nI_1 un) h)
theorem y_kof {post : Int32 → Prop} (hc : c < 4096) (h : post (vK c)) : wpY_kindOf post (yB, yD, yn, yc, yo, yu, ya, yp, yr, yh, ye, ys, er, rt, kd, na, nb, vK, vA, vB, eN, eV, eX, fN, fS, fE, fV) (nI c) := by
  refine br_f (nI_pos (by omega)) (br_t (nI_lt (b := 4096) hc (by omega)) ⟨vp_in_nI hc (by omega), ?_⟩)
  rw [nI_clamp (by omega)]
  exact h
theorem y_vA {post : Int32 → Prop} (hc : c < 4096) (h : post (vA c)) : wpY_valA post (yB, yD, yn, yc, yo, yu, ya, yp, yr, yh, ye, ys, er, rt, kd, na, nb, vK, vA, vB, eN, eV, eX, fN, fS, fE, fV) (nI c) := by
  refine br_f (nI_pos (by omega)) (br_t (nI_lt (b := 4096) hc (by omega)) ⟨vp_in_nI hc (by omega), ?_⟩)
  rw [nI_clamp (by omega)]
  exact h
theorem y_vB {post : Int32 → Prop} (hc : c < 4096) (h : post (vB c)) : wpY_valB post (yB, yD, yn, yc, yo, yu, ya, yp, yr, yh, ye, ys, er, rt, kd, na, nb, vK, vA, vB, eN, eV, eX, fN, fS, fE, fV) (nI c) := by
  refine br_f (nI_pos (by omega)) (br_t (nI_lt (b := 4096) hc (by omega)) ⟨vp_in_nI hc (by omega), ?_⟩)
  rw [nI_clamp (by omega)]
  exact h
theorem y_lk5 {post : Int32 → Prop} {L : Nat → Nat → Nat} {x : Nat} (K : dm_LK L hp ep eN eV eX) (hep : ep ≤ 128) (hx : x < 8) (h : post (nI c)) : ∀ d e, e ≤ d → e ≤ ep → L e x = c + 1 → ∀ s, s + e ≤ 200 → wY_lookup_5 post (nI x) yB yD yn yc yo yu ya yp yr yh ye ys er rt kd na nb vK vA vB eN eV eX fN fS fE fV (d + 1) (dm_eI e) (nI s) := by
  intro d
  induction d with
  | zero =>
    intro e he hep2 hL s hs
    have e0 : e = 0 := by omega
    subst e0
    rw [K.1 x] at hL
    omega
  | succ d ih =>
    intro e he hep2 hL s hs
    cases e with
    | zero =>
      rw [K.1 x] at hL
      omega
    | succ q =>
      obtain ⟨y, q', c', g1, g2, g3, g4, g5, g6, g7⟩ := K.2 q (by omega)
      rw [g7 x hx] at hL
      rw [dm_eIs]
      have hin : vp_in (nI q) 256 := vp_in_nI (by omega) (by omega)
      refine br_f (nI_ge (b := 256) (by omega) (by omega)) (br_f (nI_pos (by omega)) (br_f (nI_ge (b := 256) (by omega) (by omega)) ⟨hin, ?_⟩))
      rw [nI_clamp (by omega)]
      by_cases exy : x = y
      · rw [if_pos exy] at hL
        have ec : c' = c := by omega
        refine br_t (by rw [g4, exy]) ⟨hin, ?_⟩
        rw [g5, ec]
        exact h
      · rw [if_neg exy] at hL
        refine br_f (fun w => ?_) ⟨hin, nm_r g6 (nm_r (nI_1 s) (ih q' (by omega) (by omega) hL (s + 1) (by omega)))⟩
        rw [g4] at w
        exact exy ((nI_eq (by omega) (by omega)).mp w).symm
theorem y_look {post : Int32 → Prop} {L : Nat → Nat → Nat} {x e : Nat} (K : dm_LK L hp ep eN eV eX) (hep : ep ≤ 128) (hx : x < 8) (he : e ≤ ep) (hL : L e x = c + 1) (h : post (nI c)) : wpY_lookup post (yB, yD, yn, yc, yo, yu, ya, yp, yr, yh, ye, ys, er, rt, kd, na, nb, vK, vA, vB, eN, eV, eX, fN, fS, fE, fV) (dm_eI e) (nI x) :=
  ⟨e + 1, y_lk5 K hep hx h e e (Nat.le_refl _) he hL 0 (by omega)⟩
/-! each step -/
theorem dm_at {g : Nat → Int32} {x : Int32} (hj : j < 1000) (e : g j = x) : g (nI j).toNatClampNeg = x := by
  rw [nI_clamp (by omega)]
  exact e
theorem dm_up {g : Nat → Int32} {x : Int32} (hj : j < 1000) : upd g (nI j).toNatClampNeg x = upd g j x := by
  rw [nI_clamp (by omega)]
theorem dm_v5 (hj : j < 512) : vp_in (nI j) 512 := vp_in_nI hj (by omega)
theorem dm_v3 (hi : i < 33) : vp_in (nI i) 33 := vp_in_nI hi (by omega)
theorem y_s_num {post : SY → Prop} {st : Int32} (hj : j < 512) (hi : i < 33) (qN : fN j = nI i) (qS : fS j = st) {ev : Int32} (qE : fE j = ev) (qK : kd i = 1) (hh : hp < 4096) (h : post (yB, yD, yn, yc, yo, yu, ya, yp, yr, nI (hp + 1), ye, nI j, er, nI hp, kd, na, nb, upd vK hp 1, upd vA hp (na i), upd vB hp 0, eN, eV, eX, fN, fS, fE, fV)) : wpY_step post (yB, yD, yn, yc, yo, yu, ya, yp, yr, nI hp, ye, nI (j + 1), er, rt, kd, na, nb, vK, vA, vB, eN, eV, eX, fN, fS, fE, fV) := by
  refine nm_r (nI_pred j) ⟨dm_v5 hj, nm_r (dm_at (by omega) qN) ⟨dm_v5 hj, nm_r (dm_at (by omega) qS) ⟨dm_v5 hj, nm_r (dm_at (by omega) qE) ⟨dm_v3 hi, nm_r (dm_at (by omega) qK) ?_⟩⟩⟩⟩
  refine br_t rfl ⟨dm_v3 hi, ?_⟩
  rw [nI_clamp (by omega)]
  exact y_alloc hh (nm_r (nI_pred j) h)
theorem y_s_var {post : SY → Prop} {L : Nat → Nat → Nat} {x e : Nat} {st : Int32} (hj : j < 512) (hi : i < 33) (qN : fN j = nI i) (qS : fS j = st) (qE : fE j = dm_eI e) (qK : kd i = 2) (qA : na i = nI x) (K : dm_LK L hp ep eN eV eX) (hep : ep ≤ 128) (hx : x < 8) (he : e ≤ ep) (hL : L e x = c + 1) (h : post (yB, yD, yn, yc, yo, yu, ya, yp, yr, yh, ye, nI j, er, nI c, kd, na, nb, vK, vA, vB, eN, eV, eX, fN, fS, fE, fV)) : wpY_step post (yB, yD, yn, yc, yo, yu, ya, yp, yr, yh, ye, nI (j + 1), er, rt, kd, na, nb, vK, vA, vB, eN, eV, eX, fN, fS, fE, fV) := by
  refine nm_r (nI_pred j) ⟨dm_v5 hj, nm_r (dm_at (by omega) qN) ⟨dm_v5 hj, nm_r (dm_at (by omega) qS) ⟨dm_v5 hj, nm_r (dm_at (by omega) qE) ⟨dm_v3 hi, nm_r (dm_at (by omega) qK) ?_⟩⟩⟩⟩
  refine br_f (by decide) (br_t rfl ⟨dm_v3 hi, ?_⟩)
  rw [dm_at (by omega) qA]
  exact y_look K hep hx he hL (nm_r (nI_pred j) h)
theorem y_s_fun12 {post : SY → Prop} {st : Int32} (hj : j < 512) (hi : i < 33) (qN : fN j = nI i) (qS : fS j = st) {ev : Int32} (qE : fE j = ev) (qK : kd i = 13) (h : post (nI B, yD, yn, yc, yo, nI B, ya, yp, yr, yh, ye, nI j, 12, rt, kd, na, nb, vK, vA, vB, eN, eV, eX, fN, fS, fE, fV)) : wpY_step post (nI B, yD, yn, yc, yo, nI B, ya, yp, yr, yh, ye, nI (j + 1), er, rt, kd, na, nb, vK, vA, vB, eN, eV, eX, fN, fS, fE, fV) := by
  refine nm_r (nI_pred j) ⟨dm_v5 hj, nm_r (dm_at (by omega) qN) ⟨dm_v5 hj, nm_r (dm_at (by omega) qS) ⟨dm_v5 hj, nm_r (dm_at (by omega) qE) ⟨dm_v3 hi, nm_r (dm_at (by omega) qK) ?_⟩⟩⟩⟩
  exact br_f (by decide) (br_f (by decide) (br_t rfl (y_sp12 (br_t rfl (nm_r (nI_pred j) h)))))
theorem y_s_fun {post : SY → Prop} {st : Int32} (hj : j < 512) (hi : i < 33) (qN : fN j = nI i) (qS : fS j = st) {ev : Int32} (qE : fE j = ev) (qK : kd i = 13) (hh : hp < 4096) (hu : un < B) (hB : B ≤ 64) (h : post (nI B, yD, yn, yc, yo, nI (un + 1), ya, yp, yr, nI (hp + 1), ye, nI j, er, nI hp, kd, na, nb, upd vK hp 3, upd vA hp (nI i), upd vB hp ev, eN, eV, eX, fN, fS, fE, fV)) : wpY_step post (nI B, yD, yn, yc, yo, nI un, ya, yp, yr, nI hp, ye, nI (j + 1), er, rt, kd, na, nb, vK, vA, vB, eN, eV, eX, fN, fS, fE, fV) := by
  refine nm_r (nI_pred j) ⟨dm_v5 hj, nm_r (dm_at (by omega) qN) ⟨dm_v5 hj, nm_r (dm_at (by omega) qS) ⟨dm_v5 hj, nm_r (dm_at (by omega) qE) ⟨dm_v3 hi, nm_r (dm_at (by omega) qK) ?_⟩⟩⟩⟩
  exact br_f (by decide) (br_f (by decide) (br_t rfl (y_sp0 hu hB (br_f (by decide) (y_alloc hh (nm_r (nI_pred j) h))))))
theorem y_s_rec12 {post : SY → Prop} (hj : j < 512) (hi : i < 33) (qN : fN j = nI i) (qS : fS j = 0) {ev : Int32} (qE : fE j = ev) (qK : kd i = 15) (h : post (nI B, yD, yn, yc, yo, nI B, ya, yp, yr, yh, ye, nI (j + 1), 12, rt, kd, na, nb, vK, vA, vB, eN, eV, eX, fN, fS, fE, fV)) : wpY_step post (nI B, yD, yn, yc, yo, nI B, ya, yp, yr, yh, ye, nI (j + 1), er, rt, kd, na, nb, vK, vA, vB, eN, eV, eX, fN, fS, fE, fV) := by
  refine nm_r (nI_pred j) ⟨dm_v5 hj, nm_r (dm_at (by omega) qN) ⟨dm_v5 hj, nm_r (dm_at (by omega) qS) ⟨dm_v5 hj, nm_r (dm_at (by omega) qE) ⟨dm_v3 hi, nm_r (dm_at (by omega) qK) ?_⟩⟩⟩⟩
  exact br_f (by decide) (br_f (by decide) (br_f (by decide) (br_t rfl (br_t rfl (y_sp12 (br_t rfl h))))))
theorem y_s_rec {post : SY → Prop} {n y : Nat} (hj : j < 512) (hi : i < 33) (qN : fN j = nI i) (qS : fS j = 0) {ev : Int32} (qE : fE j = ev) (qK : kd i = 15) (hj2 : j + 1 < 512) (qA : na i = nI y) (Pg : dm_Pg kd na nb n) (Tr : dm_Tr kd n) (hin : i < n) (hh : hp < 4096) (he : ep < 256) (hu : un < B) (hB : B ≤ 64) (h : post (nI B, yD, nI n, yc, yo, nI (un + 1), ya, yp, yr, nI (hp + 1), nI (ep + 1), nI (j + 1 + 1), er, rt, kd, na, nb, upd vK hp 3, upd vA hp (nI i), upd vB hp ev, upd eN ep (nI y), upd eV ep (nI hp), upd eX ep ev, upd fN (j + 1) (nI (dm_ch kd i 1)), upd (upd fS j 1) (j + 1) 0, upd fE (j + 1) (nI ep), upd fV (j + 1) (-1))) : wpY_step post (nI B, yD, nI n, yc, yo, nI un, ya, yp, yr, nI hp, nI ep, nI (j + 1), er, rt, kd, na, nb, vK, vA, vB, eN, eV, eX, fN, fS, fE, fV) := by
  have ar2 : 1 < dm_ar (kd i) := by
    rw [qK]
    decide
  have hl := dm_ch_lt Tr hin ar2
  have hn := Pg.1
  have hl32 : dm_ch kd i 1 ≤ 32 := by omega
  refine nm_r (nI_pred j) ⟨dm_v5 hj, nm_r (dm_at (by omega) qN) ⟨dm_v5 hj, nm_r (dm_at (by omega) qS) ⟨dm_v5 hj, nm_r (dm_at (by omega) qE) ⟨dm_v3 hi, nm_r (dm_at (by omega) qK) ?_⟩⟩⟩⟩
  refine br_f (by decide) (br_f (by decide) (br_f (by decide) (br_t rfl (br_t rfl (y_sp0 hu hB (br_f (by decide) (y_alloc hh ⟨dm_v3 hi, ?_⟩)))))))
  rw [dm_at (by omega) qA]
  exact y_bnd he (y_ch Pg Tr hin (Nat.le_of_lt ar2) ⟨dm_v5 hj, nm_r (dm_up (by omega)) (y_push hj2 hl32 h)⟩)
theorem y_s_oth {post : SY → Prop} (hj : j < 512) (hi : i < 33) (qN : fN j = nI i) (qS : fS j = 0) {ev : Int32} (qE : fE j = ev) (kF : dm_kF (kd i)) (hi2 : i + 1 ≤ 32) (hj2 : j + 1 < 512) (h : post (yB, yD, yn, yc, yo, yu, ya, yp, yr, yh, ye, nI (j + 1 + 1), er, rt, kd, na, nb, vK, vA, vB, eN, eV, eX, upd fN (j + 1) (nI (i + 1)), upd (upd fS j 1) (j + 1) 0, upd fE (j + 1) ev, upd fV (j + 1) (-1))) : wpY_step post (yB, yD, yn, yc, yo, yu, ya, yp, yr, yh, ye, nI (j + 1), er, rt, kd, na, nb, vK, vA, vB, eN, eV, eX, fN, fS, fE, fV) := by
  obtain ⟨n1, n2, n13, n15⟩ := dm_kF_n kF
  refine nm_r (nI_pred j) ⟨dm_v5 hj, nm_r (dm_at (by omega) qN) ⟨dm_v5 hj, nm_r (dm_at (by omega) qS) ⟨dm_v5 hj, nm_r (dm_at (by omega) qE) ⟨dm_v3 hi, nm_r (dm_at (by omega) rfl) ?_⟩⟩⟩⟩
  refine br_f n1 (br_f n2 (br_f n13 (br_f n15 (br_t rfl ⟨dm_v5 hj, nm_r (dm_up (by omega)) ?_⟩))))
  rw [nI_1]
  exact y_push hj2 hi2 h
theorem y_s_T {post : SY → Prop} {st : Int32} (hj : j < 512) (hi : i < 33) (qN : fN j = nI i) (qS : fS j = st) {ev : Int32} (qE : fE j = ev) (kT : dm_kT (kd i) st) (h : post (yB, yD, yn, yc, yo, yu, ya, yp, yr, yh, ye, nI j, er, rt, kd, na, nb, vK, vA, vB, eN, eV, eX, fN, fS, fE, fV)) : wpY_step post (yB, yD, yn, yc, yo, yu, ya, yp, yr, yh, ye, nI (j + 1), er, rt, kd, na, nb, vK, vA, vB, eN, eV, eX, fN, fS, fE, fV) := by
  rcases kT with ⟨qK, rfl⟩ | ⟨qK, rfl⟩ | ⟨qK, rfl⟩
  · refine nm_r (nI_pred j) ⟨dm_v5 hj, nm_r (dm_at (by omega) qN) ⟨dm_v5 hj, nm_r (dm_at (by omega) qS) ⟨dm_v5 hj, nm_r (dm_at (by omega) qE) ⟨dm_v3 hi, nm_r (dm_at (by omega) qK) ?_⟩⟩⟩⟩
    exact br_f (by decide) (br_f (by decide) (br_f (by decide) (br_f (by decide) (br_f (by decide) (br_t rfl (br_f (by decide) (nm_r (nI_pred j) h)))))))
  · refine nm_r (nI_pred j) ⟨dm_v5 hj, nm_r (dm_at (by omega) qN) ⟨dm_v5 hj, nm_r (dm_at (by omega) qS) ⟨dm_v5 hj, nm_r (dm_at (by omega) qE) ⟨dm_v3 hi, nm_r (dm_at (by omega) qK) ?_⟩⟩⟩⟩
    exact br_f (by decide) (br_f (by decide) (br_f (by decide) (br_f (by decide) (br_f (by decide) (br_f (by decide) (br_f (by decide) (br_f (by decide) (br_t rfl (br_f (by decide) (nm_r (nI_pred j) h))))))))))
  · refine nm_r (nI_pred j) ⟨dm_v5 hj, nm_r (dm_at (by omega) qN) ⟨dm_v5 hj, nm_r (dm_at (by omega) qS) ⟨dm_v5 hj, nm_r (dm_at (by omega) qE) ⟨dm_v3 hi, nm_r (dm_at (by omega) qK) ?_⟩⟩⟩⟩
    exact br_f (by decide) (br_f (by decide) (br_f (by decide) (br_t rfl (br_f (by decide) (nm_r (nI_pred j) h)))))
theorem y_s_body {post : SY → Prop} (hj : j < 512) (hi : i < 33) (qN : fN j = nI i) (qS : fS j = 3) {ev : Int32} (qE : fE j = ev) (qK : kd i = 16) (h : post (yB, yD, yn, yc, yo, yu, nI a, yp, yr, yh, ye, nI j, er, rt, kd, na, nb, vK, vA, vB, eN, eV, eX, fN, fS, fE, fV)) : wpY_step post (yB, yD, yn, yc, yo, yu, nI (a + 1), yp, yr, yh, ye, nI (j + 1), er, rt, kd, na, nb, vK, vA, vB, eN, eV, eX, fN, fS, fE, fV) := by
  refine nm_r (nI_pred j) ⟨dm_v5 hj, nm_r (dm_at (by omega) qN) ⟨dm_v5 hj, nm_r (dm_at (by omega) qS) ⟨dm_v5 hj, nm_r (dm_at (by omega) qE) ⟨dm_v3 hi, nm_r (dm_at (by omega) qK) ?_⟩⟩⟩⟩
  exact br_f (by decide) (br_f (by decide) (br_f (by decide) (br_f (by decide) (br_f (by decide) (br_f (by decide) (br_f (by decide) (br_f (by decide) (br_f (by decide) (br_t rfl (br_t rfl (nm_r (nI_pred a) (nm_r (nI_pred j) h))))))))))))
theorem y_s_if8 {post : SY → Prop} (hj : j < 512) (hi : i < 33) (qN : fN j = nI i) (qS : fS j = 1) {ev : Int32} (qE : fE j = ev) (qK : kd i = 9) (hc : c < 4096) (hk : ¬ vK c = 1) (h : post (yB, yD, yn, yc, yo, yu, ya, yp, yr, yh, ye, nI (j + 1), 8, nI c, kd, na, nb, vK, vA, vB, eN, eV, eX, fN, fS, fE, fV)) : wpY_step post (yB, yD, yn, yc, yo, yu, ya, yp, yr, yh, ye, nI (j + 1), er, nI c, kd, na, nb, vK, vA, vB, eN, eV, eX, fN, fS, fE, fV) := by
  refine nm_r (nI_pred j) ⟨dm_v5 hj, nm_r (dm_at (by omega) qN) ⟨dm_v5 hj, nm_r (dm_at (by omega) qS) ⟨dm_v5 hj, nm_r (dm_at (by omega) qE) ⟨dm_v3 hi, nm_r (dm_at (by omega) qK) ?_⟩⟩⟩⟩
  exact br_f (by decide) (br_f (by decide) (br_f (by decide) (br_f (by decide) (br_f (by decide) (br_t rfl (br_t rfl (y_kof hc (br_f hk h))))))))
theorem y_s_if {post : SY → Prop} {n b : Nat} (hj : j < 512) (hi : i < 33) (qN : fN j = nI i) (qS : fS j = 1) {ev : Int32} (qE : fE j = ev) (qK : kd i = 9) (hc : c < 4096) (hk : vK c = 1) (hb : (vA c = 0 ∧ b = 2) ∨ (¬ vA c = 0 ∧ b = 1)) (hj2 : j + 1 < 512) (Pg : dm_Pg kd na nb n) (Tr : dm_Tr kd n) (hin : i < n) (h : post (yB, yD, nI n, yc, yo, yu, ya, yp, yr, yh, ye, nI (j + 1 + 1), er, nI c, kd, na, nb, vK, vA, vB, eN, eV, eX, upd fN (j + 1) (nI (dm_ch kd i b)), upd (upd fS j 2) (j + 1) 0, upd fE (j + 1) ev, upd fV (j + 1) (-1))) : wpY_step post (yB, yD, nI n, yc, yo, yu, ya, yp, yr, yh, ye, nI (j + 1), er, nI c, kd, na, nb, vK, vA, vB, eN, eV, eX, fN, fS, fE, fV) := by
  have ar3 : dm_ar (kd i) = 3 := by
    rw [qK]
    decide
  have hl := dm_ch_lt Tr hin (c := b) (by omega)
  have hn := Pg.1
  have W : wY_step_299 post (nI j) (nI i) ev (nI b) yB yD (nI n) yc yo yu ya yp yr yh ye (nI (j + 1)) er (nI c) kd na nb vK vA vB eN eV eX fN fS fE fV := y_ch Pg Tr hin (by omega) ⟨dm_v5 hj, nm_r (dm_up (by omega)) (y_push hj2 (by omega) h)⟩
  refine nm_r (nI_pred j) ⟨dm_v5 hj, nm_r (dm_at (by omega) qN) ⟨dm_v5 hj, nm_r (dm_at (by omega) qS) ⟨dm_v5 hj, nm_r (dm_at (by omega) qE) ⟨dm_v3 hi, nm_r (dm_at (by omega) qK) ?_⟩⟩⟩⟩
  refine br_f (by decide) (br_f (by decide) (br_f (by decide) (br_f (by decide) (br_f (by decide) (br_t rfl (br_t rfl (y_kof hc (br_t hk (y_vA hc ?_)))))))))
  rcases hb with ⟨z, rfl⟩ | ⟨z, rfl⟩
  · exact br_t z W
  · exact br_f z W
theorem y_s_fst10 {post : SY → Prop} (hj : j < 512) (hi : i < 33) (qN : fN j = nI i) (qS : fS j = 1) {ev : Int32} (qE : fE j = ev) (qK : kd i = 11) (hc : c < 4096) (hk : ¬ vK c = 2) (h : post (yB, yD, yn, yc, yo, yu, ya, yp, yr, yh, ye, nI (j + 1), 10, nI c, kd, na, nb, vK, vA, vB, eN, eV, eX, fN, fS, fE, fV)) : wpY_step post (yB, yD, yn, yc, yo, yu, ya, yp, yr, yh, ye, nI (j + 1), er, nI c, kd, na, nb, vK, vA, vB, eN, eV, eX, fN, fS, fE, fV) := by
  refine nm_r (nI_pred j) ⟨dm_v5 hj, nm_r (dm_at (by omega) qN) ⟨dm_v5 hj, nm_r (dm_at (by omega) qS) ⟨dm_v5 hj, nm_r (dm_at (by omega) qE) ⟨dm_v3 hi, nm_r (dm_at (by omega) qK) ?_⟩⟩⟩⟩
  exact br_f (by decide) (br_f (by decide) (br_f (by decide) (br_f (by decide) (br_f (by decide) (br_f (by decide) (br_t rfl (y_kof hc (br_f hk h))))))))
theorem y_s_fst {post : SY → Prop} (hj : j < 512) (hi : i < 33) (qN : fN j = nI i) (qS : fS j = 1) {ev : Int32} (qE : fE j = ev) (qK : kd i = 11) (hc : c < 4096) (hk : vK c = 2) (h : post (yB, yD, yn, yc, yo, yu, ya, yp, yr, yh, ye, nI j, er, vA c, kd, na, nb, vK, vA, vB, eN, eV, eX, fN, fS, fE, fV)) : wpY_step post (yB, yD, yn, yc, yo, yu, ya, yp, yr, yh, ye, nI (j + 1), er, nI c, kd, na, nb, vK, vA, vB, eN, eV, eX, fN, fS, fE, fV) := by
  refine nm_r (nI_pred j) ⟨dm_v5 hj, nm_r (dm_at (by omega) qN) ⟨dm_v5 hj, nm_r (dm_at (by omega) qS) ⟨dm_v5 hj, nm_r (dm_at (by omega) qE) ⟨dm_v3 hi, nm_r (dm_at (by omega) qK) ?_⟩⟩⟩⟩
  exact br_f (by decide) (br_f (by decide) (br_f (by decide) (br_f (by decide) (br_f (by decide) (br_f (by decide) (br_t rfl (y_kof hc (br_t hk (br_t rfl (y_vA hc (nm_r (nI_pred j) h)))))))))))
theorem y_s_snd10 {post : SY → Prop} (hj : j < 512) (hi : i < 33) (qN : fN j = nI i) (qS : fS j = 1) {ev : Int32} (qE : fE j = ev) (qK : kd i = 12) (hc : c < 4096) (hk : ¬ vK c = 2) (h : post (yB, yD, yn, yc, yo, yu, ya, yp, yr, yh, ye, nI (j + 1), 10, nI c, kd, na, nb, vK, vA, vB, eN, eV, eX, fN, fS, fE, fV)) : wpY_step post (yB, yD, yn, yc, yo, yu, ya, yp, yr, yh, ye, nI (j + 1), er, nI c, kd, na, nb, vK, vA, vB, eN, eV, eX, fN, fS, fE, fV) := by
  refine nm_r (nI_pred j) ⟨dm_v5 hj, nm_r (dm_at (by omega) qN) ⟨dm_v5 hj, nm_r (dm_at (by omega) qS) ⟨dm_v5 hj, nm_r (dm_at (by omega) qE) ⟨dm_v3 hi, nm_r (dm_at (by omega) qK) ?_⟩⟩⟩⟩
  exact br_f (by decide) (br_f (by decide) (br_f (by decide) (br_f (by decide) (br_f (by decide) (br_f (by decide) (br_f (by decide) (br_t rfl (y_kof hc (br_f hk h)))))))))
theorem y_s_snd {post : SY → Prop} (hj : j < 512) (hi : i < 33) (qN : fN j = nI i) (qS : fS j = 1) {ev : Int32} (qE : fE j = ev) (qK : kd i = 12) (hc : c < 4096) (hk : vK c = 2) (h : post (yB, yD, yn, yc, yo, yu, ya, yp, yr, yh, ye, nI j, er, vB c, kd, na, nb, vK, vA, vB, eN, eV, eX, fN, fS, fE, fV)) : wpY_step post (yB, yD, yn, yc, yo, yu, ya, yp, yr, yh, ye, nI (j + 1), er, nI c, kd, na, nb, vK, vA, vB, eN, eV, eX, fN, fS, fE, fV) := by
  refine nm_r (nI_pred j) ⟨dm_v5 hj, nm_r (dm_at (by omega) qN) ⟨dm_v5 hj, nm_r (dm_at (by omega) qS) ⟨dm_v5 hj, nm_r (dm_at (by omega) qE) ⟨dm_v3 hi, nm_r (dm_at (by omega) qK) ?_⟩⟩⟩⟩
  exact br_f (by decide) (br_f (by decide) (br_f (by decide) (br_f (by decide) (br_f (by decide) (br_f (by decide) (br_f (by decide) (br_t rfl (y_kof hc (br_t hk (br_f (by decide) (y_vB hc (nm_r (nI_pred j) h))))))))))))
theorem y_s_let12 {post : SY → Prop} (hj : j < 512) (hi : i < 33) (qN : fN j = nI i) (qS : fS j = 1) {ev : Int32} (qE : fE j = ev) (qK : kd i = 14) (h : post (nI B, yD, yn, yc, yo, nI B, ya, yp, yr, yh, ye, nI (j + 1), 12, rt, kd, na, nb, vK, vA, vB, eN, eV, eX, fN, fS, fE, fV)) : wpY_step post (nI B, yD, yn, yc, yo, nI B, ya, yp, yr, yh, ye, nI (j + 1), er, rt, kd, na, nb, vK, vA, vB, eN, eV, eX, fN, fS, fE, fV) := by
  refine nm_r (nI_pred j) ⟨dm_v5 hj, nm_r (dm_at (by omega) qN) ⟨dm_v5 hj, nm_r (dm_at (by omega) qS) ⟨dm_v5 hj, nm_r (dm_at (by omega) qE) ⟨dm_v3 hi, nm_r (dm_at (by omega) qK) ?_⟩⟩⟩⟩
  exact br_f (by decide) (br_f (by decide) (br_f (by decide) (br_f (by decide) (br_f (by decide) (br_f (by decide) (br_f (by decide) (br_f (by decide) (br_t rfl (br_t rfl (y_sp12 (br_t rfl h)))))))))))
theorem y_s_let {post : SY → Prop} {n y : Nat} (hj : j < 512) (hi : i < 33) (qN : fN j = nI i) (qS : fS j = 1) {ev : Int32} (qE : fE j = ev) (qK : kd i = 14) (hj2 : j + 1 < 512) (qA : na i = nI y) (Pg : dm_Pg kd na nb n) (Tr : dm_Tr kd n) (hin : i < n) (he : ep < 256) (hu : un < B) (hB : B ≤ 64) (h : post (nI B, yD, nI n, yc, yo, nI (un + 1), ya, yp, yr, yh, nI (ep + 1), nI (j + 1 + 1), er, rt, kd, na, nb, vK, vA, vB, upd eN ep (nI y), upd eV ep rt, upd eX ep ev, upd fN (j + 1) (nI (dm_ch kd i 1)), upd (upd fS j 2) (j + 1) 0, upd fE (j + 1) (nI ep), upd fV (j + 1) (-1))) : wpY_step post (nI B, yD, nI n, yc, yo, nI un, ya, yp, yr, yh, nI ep, nI (j + 1), er, rt, kd, na, nb, vK, vA, vB, eN, eV, eX, fN, fS, fE, fV) := by
  have ar2 : 1 < dm_ar (kd i) := by
    rw [qK]
    decide
  have hl := dm_ch_lt Tr hin ar2
  have hn := Pg.1
  have hl32 : dm_ch kd i 1 ≤ 32 := by omega
  refine nm_r (nI_pred j) ⟨dm_v5 hj, nm_r (dm_at (by omega) qN) ⟨dm_v5 hj, nm_r (dm_at (by omega) qS) ⟨dm_v5 hj, nm_r (dm_at (by omega) qE) ⟨dm_v3 hi, nm_r (dm_at (by omega) qK) ?_⟩⟩⟩⟩
  refine br_f (by decide) (br_f (by decide) (br_f (by decide) (br_f (by decide) (br_f (by decide) (br_f (by decide) (br_f (by decide) (br_f (by decide) (br_t rfl (br_t rfl (y_sp0 hu hB (br_f (by decide) ⟨dm_v3 hi, ?_⟩)))))))))))
  rw [dm_at (by omega) qA]
  exact y_bnd he (y_ch Pg Tr hin (Nat.le_of_lt ar2) ⟨dm_v5 hj, nm_r (dm_up (by omega)) (y_push hj2 hl32 h)⟩)
theorem y_s_506 {post : SY → Prop} {st : Int32} (hj : j < 512) (hi : i < 33) (qN : fN j = nI i) (qS : fS j = st) {ev : Int32} (qE : fE j = ev) (kS : dm_kS (kd i)) (h0 : ¬ st = 0) (h3 : ¬ st = 3) (h : wY_step_506 post (nI j) (nI i) st ev (kd i) yB yD yn yc yo yu ya yp yr yh ye (nI (j + 1)) er rt kd na nb vK vA vB eN eV eX fN fS fE fV) : wpY_step post (yB, yD, yn, yc, yo, yu, ya, yp, yr, yh, ye, nI (j + 1), er, rt, kd, na, nb, vK, vA, vB, eN, eV, eX, fN, fS, fE, fV) := by
  obtain ⟨n1, n2, n13, n15, n9, n11, n12, n14⟩ := dm_kS_n kS
  refine nm_r (nI_pred j) ⟨dm_v5 hj, nm_r (dm_at (by omega) qN) ⟨dm_v5 hj, nm_r (dm_at (by omega) qS) ⟨dm_v5 hj, nm_r (dm_at (by omega) qE) ⟨dm_v3 hi, nm_r (dm_at (by omega) rfl) ?_⟩⟩⟩⟩
  refine br_f n1 (br_f n2 (br_f n13 (br_f n15 (br_f h0 (br_f n9 (br_f n11 (br_f n12 (br_f n14 (?_)))))))))
  by_cases k16 : kd i = 16
  · exact br_t k16 (br_f h3 h)
  · exact br_f k16 h
theorem y_s_one {post : SY → Prop} {n : Nat} (hj : j < 512) (hi : i < 33) (qN : fN j = nI i) (qS : fS j = 1) {ev : Int32} (qE : fE j = ev) (kS : dm_kS (kd i)) (ar2 : dm_ar (kd i) = 2) (hj2 : j + 1 < 512) (Pg : dm_Pg kd na nb n) (Tr : dm_Tr kd n) (hin : i < n) (h : post (yB, yD, nI n, yc, yo, yu, ya, yp, yr, yh, ye, nI (j + 1 + 1), er, rt, kd, na, nb, vK, vA, vB, eN, eV, eX, upd fN (j + 1) (nI (dm_ch kd i 1)), upd (upd fS j 2) (j + 1) 0, upd fE (j + 1) ev, upd (upd fV j rt) (j + 1) (-1))) : wpY_step post (yB, yD, nI n, yc, yo, yu, ya, yp, yr, yh, ye, nI (j + 1), er, rt, kd, na, nb, vK, vA, vB, eN, eV, eX, fN, fS, fE, fV) := by
  have hl := dm_ch_lt Tr hin (c := 1) (by omega)
  have hn := Pg.1
  refine y_s_506 hj hi qN qS qE kS (by decide) (by decide) ?_
  exact br_t rfl ⟨dm_v5 hj, nm_r (dm_up (by omega)) ⟨dm_v5 hj, nm_r (dm_up (by omega)) (y_ch Pg Tr hin (c := 1) (by omega) (y_push hj2 (by omega) h))⟩⟩
theorem y_s_pair12 {post : SY → Prop} {w : Int32} (hj : j < 512) (hi : i < 33) (qN : fN j = nI i) (qS : fS j = 2) {ev : Int32} (qE : fE j = ev) (qV : fV j = w) (qK : kd i = 10) (h : post (nI B, yD, yn, yc, yo, nI B, ya, yp, yr, yh, ye, nI j, 12, rt, kd, na, nb, vK, vA, vB, eN, eV, eX, fN, fS, fE, fV)) : wpY_step post (nI B, yD, yn, yc, yo, nI B, ya, yp, yr, yh, ye, nI (j + 1), er, rt, kd, na, nb, vK, vA, vB, eN, eV, eX, fN, fS, fE, fV) := by
  refine y_s_506 hj hi qN qS qE (by rw [qK]; exact Or.inr (Or.inr (Or.inr (Or.inr (Or.inr (Or.inr (Or.inl rfl))))))) (by decide) (by decide) ?_
  exact br_f (by decide) ⟨dm_v5 hj, nm_r (dm_at (by omega) qV) (br_t qK (y_sp12 (br_t rfl (nm_r (nI_pred j) h))))⟩
theorem y_s_pair {post : SY → Prop} {w : Int32} (hj : j < 512) (hi : i < 33) (qN : fN j = nI i) (qS : fS j = 2) {ev : Int32} (qE : fE j = ev) (qV : fV j = w) (qK : kd i = 10) (hh : hp < 4096) (hu : un < B) (hB : B ≤ 64) (h : post (nI B, yD, yn, yc, yo, nI (un + 1), ya, yp, yr, nI (hp + 1), ye, nI j, er, nI hp, kd, na, nb, upd vK hp 2, upd vA hp w, upd vB hp rt, eN, eV, eX, fN, fS, fE, fV)) : wpY_step post (nI B, yD, yn, yc, yo, nI un, ya, yp, yr, nI hp, ye, nI (j + 1), er, rt, kd, na, nb, vK, vA, vB, eN, eV, eX, fN, fS, fE, fV) := by
  refine y_s_506 hj hi qN qS qE (by rw [qK]; exact Or.inr (Or.inr (Or.inr (Or.inr (Or.inr (Or.inr (Or.inl rfl))))))) (by decide) (by decide) ?_
  exact br_f (by decide) ⟨dm_v5 hj, nm_r (dm_at (by omega) qV) (br_t qK (y_sp0 hu hB (br_f (by decide) (y_alloc hh (nm_r (nI_pred j) h)))))⟩
theorem y_s_bin {post : SY → Prop} {w : Int32} (hj : j < 512) (hi : i < 33) (qN : fN j = nI i) (qS : fS j = 2) {ev : Int32} (qE : fE j = ev) (qV : fV j = w) (kB : dm_kB (kd i)) (h : wpY_binop post (yB, yD, yn, yc, yo, yu, ya, yp, yr, yh, ye, nI (j + 1), er, rt, kd, na, nb, vK, vA, vB, eN, eV, eX, fN, fS, fE, fV) (kd i) w rt) : wpY_step post (yB, yD, yn, yc, yo, yu, ya, yp, yr, yh, ye, nI (j + 1), er, rt, kd, na, nb, vK, vA, vB, eN, eV, eX, fN, fS, fE, fV) := by
  obtain ⟨n1, n2, n13, n15, n9, n11, n12, n14, n16, n10⟩ := dm_kB_n kB
  have kS : dm_kS (kd i) := by
    rcases kB with e | e | e | e | e | e <;> simp [dm_kS, e]
  refine y_s_506 hj hi qN qS qE kS (by decide) (by decide) ?_
  exact br_f (by decide) ⟨dm_v5 hj, nm_r (dm_at (by omega) qV) (br_f n10 (br_f n16 h))⟩
theorem y_b8a {post : SY → Prop} {k : Int32} {r : Int32} (hc : c < 4096) (hk : ¬ vK c = 1) (h : post (yB, yD, yn, yc, yo, yu, ya, yp, yr, yh, ye, ys, 8, rt, kd, na, nb, vK, vA, vB, eN, eV, eX, fN, fS, fE, fV)) : wpY_binop post (yB, yD, yn, yc, yo, yu, ya, yp, yr, yh, ye, ys, er, rt, kd, na, nb, vK, vA, vB, eN, eV, eX, fN, fS, fE, fV) k (nI c) r := by
  unfold wpY_binop
  exact y_kof hc (br_f hk h)
theorem y_b8b {post : SY → Prop} {k : Int32} {d : Nat} (hc : c < 4096) (hd : d < 4096) (hk : vK c = 1) (hk2 : ¬ vK d = 1) (h : post (yB, yD, yn, yc, yo, yu, ya, yp, yr, yh, ye, ys, 8, rt, kd, na, nb, vK, vA, vB, eN, eV, eX, fN, fS, fE, fV)) : wpY_binop post (yB, yD, yn, yc, yo, yu, ya, yp, yr, yh, ye, ys, er, rt, kd, na, nb, vK, vA, vB, eN, eV, eX, fN, fS, fE, fV) k (nI c) (nI d) := by
  unfold wpY_binop
  exact y_kof hc (br_t hk (y_kof hd (br_f hk2 h)))
theorem y_b11 {post : SY → Prop} {d : Nat} (hc : c < 4096) (hd : d < 4096) (hk : vK c = 1) (hk2 : vK d = 1) (hz : vA d = 0) (h : post (yB, yD, yn, yc, yo, yu, ya, yp, yr, yh, ye, ys, 11, rt, kd, na, nb, vK, vA, vB, eN, eV, eX, fN, fS, fE, fV)) : wpY_binop post (yB, yD, yn, yc, yo, yu, ya, yp, yr, yh, ye, ys, er, rt, kd, na, nb, vK, vA, vB, eN, eV, eX, fN, fS, fE, fV) 6 (nI c) (nI d) := by
  unfold wpY_binop
  exact y_kof hc (br_t hk (y_kof hd (br_t hk2 (y_vA hc (y_vA hd (br_f (by decide) (br_f (by decide) (br_f (by decide) (br_t rfl (br_t hz h))))))))))
theorem y_b {post : SY → Prop} {k : Int32} {d : Nat} (hc : c < 4096) (hd : d < 4096) (hh : hp < 4096) (hk : vK c = 1) (hk2 : vK d = 1) (hz : ¬ (k = 6 ∧ vA d = 0)) (kB : dm_kB k) (h : post (yB, yD, yn, yc, yo, yu, ya, yp, yr, nI (hp + 1), ye, nI j, er, nI hp, kd, na, nb, upd vK hp 1, upd vA hp (dm_bin k (vA c) (vA d)), upd vB hp 0, eN, eV, eX, fN, fS, fE, fV)) : wpY_binop post (yB, yD, yn, yc, yo, yu, ya, yp, yr, nI hp, ye, nI (j + 1), er, rt, kd, na, nb, vK, vA, vB, eN, eV, eX, fN, fS, fE, fV) k (nI c) (nI d) := by
  have W : ∀ z, z = dm_bin k (vA c) (vA d) → wY_binop_159 post z yB yD yn yc yo yu ya yp yr (nI hp) ye (nI (j + 1)) er rt kd na nb vK vA vB eN eV eX fN fS fE fV := by
    rintro z rfl
    unfold wY_binop_159
    exact y_alloc hh (nm_r (nI_pred j) h)
  unfold wpY_binop
  refine y_kof hc (br_t hk (y_kof hd (br_t hk2 (y_vA hc (y_vA hd ?_)))))
  rcases kB with rfl | rfl | rfl | rfl | rfl | rfl
  · exact br_t rfl (nm_e (W _ rfl))
  · exact br_f (by decide) (br_t rfl (nm_e (W _ rfl)))
  · exact br_f (by decide) (br_f (by decide) (br_t rfl (nm_e (W _ rfl))))
  · have hz2 : ¬ vA d = 0 := fun e => hz ⟨rfl, e⟩
    exact br_f (by decide) (br_f (by decide) (br_f (by decide) (br_t rfl (br_f hz2 ⟨hz2, nm_e (W _ rfl)⟩))))
  · refine br_f (by decide) (br_f (by decide) (br_f (by decide) (br_f (by decide) (br_t rfl ?_))))
    by_cases e : vA d ≤ vA c
    · exact br_t e (W _ (if_pos e).symm)
    · exact br_f e (W _ (if_neg e).symm)
  · refine br_f (by decide) (br_f (by decide) (br_f (by decide) (br_f (by decide) (br_f (by decide) ?_))))
    by_cases e : vA c = vA d
    · exact br_t e (W _ (if_pos e).symm)
    · exact br_f e (W _ (if_neg e).symm)
theorem y_s_app {post : SY → Prop} {w : Int32} (hj : j < 512) (hi : i < 33) (qN : fN j = nI i) (qS : fS j = 2) {ev : Int32} (qE : fE j = ev) (qV : fV j = w) (qK : kd i = 16) (h : wpY_apply post (yB, yD, yn, yc, yo, yu, ya, yp, yr, yh, ye, nI (j + 1), er, rt, kd, na, nb, vK, vA, vB, eN, eV, eX, fN, fS, fE, fV) (nI j) w rt) : wpY_step post (yB, yD, yn, yc, yo, yu, ya, yp, yr, yh, ye, nI (j + 1), er, rt, kd, na, nb, vK, vA, vB, eN, eV, eX, fN, fS, fE, fV) := by
  refine y_s_506 hj hi qN qS qE (by rw [qK]; exact Or.inr (Or.inr (Or.inr (Or.inr (Or.inr (Or.inr (Or.inr rfl))))))) (by decide) (by decide) ?_
  exact br_f (by decide) ⟨dm_v5 hj, nm_r (dm_at (by omega) qV) (br_f (by rw [qK]; decide) (br_t qK h))⟩
theorem y_a9 {post : SY → Prop} {r : Int32} (hc : c < 4096) (hk : ¬ vK c = 3) (h : post (yB, yD, yn, yc, yo, yu, ya, yp, yr, yh, ye, ys, 9, rt, kd, na, nb, vK, vA, vB, eN, eV, eX, fN, fS, fE, fV)) : wpY_apply post (yB, yD, yn, yc, yo, yu, ya, yp, yr, yh, ye, ys, er, rt, kd, na, nb, vK, vA, vB, eN, eV, eX, fN, fS, fE, fV) (nI j) (nI c) r := by
  unfold wpY_apply
  exact y_kof hc (br_f hk h)
theorem y_a12 {post : SY → Prop} {r : Int32} (hc : c < 4096) (hk : vK c = 3) (h : post (nI B, yD, yn, yc, yo, nI B, ya, yp, yr, yh, ye, ys, 12, rt, kd, na, nb, vK, vA, vB, eN, eV, eX, fN, fS, fE, fV)) : wpY_apply post (nI B, yD, yn, yc, yo, nI B, ya, yp, yr, yh, ye, ys, er, rt, kd, na, nb, vK, vA, vB, eN, eV, eX, fN, fS, fE, fV) (nI j) (nI c) r := by
  unfold wpY_apply
  exact y_kof hc (br_t hk (br_t rfl h))
theorem y_a13 {post : SY → Prop} {r : Int32} (hc : c < 4096) (hk : vK c = 3) (hu : un < B) (hB : B ≤ 64) (h : post (nI B, nI D, yn, yc, yo, nI un, nI D, yp, yr, yh, ye, ys, 13, rt, kd, na, nb, vK, vA, vB, eN, eV, eX, fN, fS, fE, fV)) : wpY_apply post (nI B, nI D, yn, yc, yo, nI un, nI D, yp, yr, yh, ye, ys, er, rt, kd, na, nb, vK, vA, vB, eN, eV, eX, fN, fS, fE, fV) (nI j) (nI c) r := by
  unfold wpY_apply
  exact y_kof hc (br_t hk (br_f (fun e => by have := (nI_eq (by omega) (by omega)).mp e; omega) (br_t rfl h)))
def dm_pk (a : Nat) (pk : Int32) : Int32 := if nI (a + 1) ≤ pk then pk else nI (a + 1)
theorem y_a0f {post : SY → Prop} {r ev : Int32} {l y z : Nat} (hj : j < 512) (hj2 : j + 1 < 512) (hc : c < 4096) (hk : vK c = 3) (hu : un < B) (hB : B ≤ 64) (hd : a < D) (hD : D ≤ 8) (hl : l < 32) (qA : vA c = nI l) (qB : vB c = ev) (kl : ¬ kd l = 15) (ey : na l = nI y) (ez : kd l = 15 → nb l = nI z) (he : ep + 1 < 256) (h : post (nI B, nI D, yn, yc, yo, nI (un + 1), nI (a + 1), dm_pk a yp, yr, yh, nI (ep + 1), nI (j + 1 + 1), er, rt, kd, na, nb, vK, vA, vB, upd eN ep (nI y), upd eV ep r, upd eX ep ev, upd fN (j + 1) (nI (l + 1)), upd (upd fS j 3) (j + 1) 0, upd fE (j + 1) (nI ep), upd fV (j + 1) (-1))) : wpY_apply post (nI B, nI D, yn, yc, yo, nI un, nI a, yp, yr, yh, nI ep, nI (j + 1), er, rt, kd, na, nb, vK, vA, vB, eN, eV, eX, fN, fS, fE, fV) (nI j) (nI c) r := by
  have W : ∀ pk, pk = dm_pk a yp → wY_apply_91 post (nI j) (nI c) r (nI B) (nI D) yn yc yo (nI (un + 1)) (nI (a + 1)) pk yr yh (nI ep) (nI (j + 1)) er rt kd na nb vK vA vB eN eV eX fN fS fE fV := by
    rintro pk rfl
    unfold wY_apply_91
    refine y_vA hc (y_vB hc ?_)
    rw [qA, qB]
    refine br_f (nI_pos (by omega)) (br_t (nI_le (b := 32) (by omega) (by omega)) ⟨dm_v3 (by omega), ?_⟩)
    rw [nI_clamp (by omega)]
    refine br_f kl ⟨dm_v3 (by omega), ?_⟩
    rw [ey]
    refine y_bnd (by omega) ⟨dm_v5 hj, nm_r (dm_up (by omega)) ?_⟩
    rw [nI_1]
    exact y_push hj2 (by omega) h
  unfold wpY_apply
  refine y_kof hc (br_t hk (br_f (fun e => by have := (nI_eq (by omega) (by omega)).mp e; omega) (br_f (fun e => by have := (nI_eq (by omega) (by omega)).mp e; omega) (nm_r (nI_1 un) (nm_r (nI_1 a) ?_)))))
  by_cases e : nI (a + 1) ≤ yp
  · exact br_t e (W _ (if_pos e).symm)
  · exact br_f e (W _ (if_neg e).symm)
theorem y_a0r {post : SY → Prop} {r ev : Int32} {l y z : Nat} (hj : j < 512) (hj2 : j + 1 < 512) (hc : c < 4096) (hk : vK c = 3) (hu : un < B) (hB : B ≤ 64) (hd : a < D) (hD : D ≤ 8) (hl : l < 32) (qA : vA c = nI l) (qB : vB c = ev) (kl : kd l = 15) (ey : na l = nI y) (ez : kd l = 15 → nb l = nI z) (he : ep + 1 < 256) (h : post (nI B, nI D, yn, yc, yo, nI (un + 1), nI (a + 1), dm_pk a yp, yr, yh, nI (ep + 1 + 1), nI (j + 1 + 1), er, rt, kd, na, nb, vK, vA, vB, upd (upd eN ep (nI y)) (ep + 1) (nI z), upd (upd eV ep (nI c)) (ep + 1) r, upd (upd eX ep ev) (ep + 1) (nI ep), upd fN (j + 1) (nI (l + 1)), upd (upd fS j 3) (j + 1) 0, upd fE (j + 1) (nI (ep + 1)), upd fV (j + 1) (-1))) : wpY_apply post (nI B, nI D, yn, yc, yo, nI un, nI a, yp, yr, yh, nI ep, nI (j + 1), er, rt, kd, na, nb, vK, vA, vB, eN, eV, eX, fN, fS, fE, fV) (nI j) (nI c) r := by
  have W : ∀ pk, pk = dm_pk a yp → wY_apply_91 post (nI j) (nI c) r (nI B) (nI D) yn yc yo (nI (un + 1)) (nI (a + 1)) pk yr yh (nI ep) (nI (j + 1)) er rt kd na nb vK vA vB eN eV eX fN fS fE fV := by
    rintro pk rfl
    unfold wY_apply_91
    refine y_vA hc (y_vB hc ?_)
    rw [qA, qB]
    refine br_f (nI_pos (by omega)) (br_t (nI_le (b := 32) (by omega) (by omega)) ⟨dm_v3 (by omega), ?_⟩)
    rw [nI_clamp (by omega)]
    refine br_t kl ⟨dm_v3 (by omega), ?_⟩
    rw [ey]
    refine y_bnd (by omega) ⟨dm_v3 (by omega), ?_⟩
    rw [ez kl]
    refine y_bnd (by omega) ⟨dm_v5 hj, nm_r (dm_up (by omega)) ?_⟩
    rw [nI_1]
    exact y_push hj2 (by omega) h
  unfold wpY_apply
  refine y_kof hc (br_t hk (br_f (fun e => by have := (nI_eq (by omega) (by omega)).mp e; omega) (br_f (fun e => by have := (nI_eq (by omega) (by omega)).mp e; omega) (nm_r (nI_1 un) (nm_r (nI_1 a) ?_)))))
  by_cases e : nI (a + 1) ≤ yp
  · exact br_t e (W _ (if_pos e).symm)
  · exact br_f e (W _ (if_neg e).symm)
end
end
section
/-! the class's steps -/
section
variable {xB xD xn xo xc xl oc xu xa pk xw en cn cb : Int32} {xr cv : Int64} {kd na nb se fn tg tn cT cB wN wF wB : Nat → Int32} {pF pS bo wV : Nat → Int64} {w i c un B D a s t y : Nat}
theorem dm_at2 {g : Nat → Int32} {x : Int32} {j : Nat} (hj : j < 1000) (e : g j = x) : g (nI j).toNatClampNeg = x := by
  rw [nI_clamp (by omega)]
  exact e
theorem dm_atL {g : Nat → Int64} {j : Nat} (hj : j < 1000) : g (nI j).toNatClampNeg = g j := by
  rw [nI_clamp (by omega)]
theorem dm_up2 {g : Nat → Int32} {x : Int32} {j : Nat} (hj : j < 1000) : upd g (nI j).toNatClampNeg x = upd g j x := by
  rw [nI_clamp (by omega)]
theorem dm_upL {g : Nat → Int64} {x : Int64} {j : Nat} (hj : j < 1000) : vp_updL g (nI j).toNatClampNeg x = vp_updL g j x := by
  rw [nI_clamp (by omega)]
theorem dm_w32 {j : Nat} (h : j < 32) : vp_in (nI j) 32 := vp_in_nI h (by omega)
theorem dm_w65 {j : Nat} (h : j < 65) : vp_in (nI j) 65 := vp_in_nI h (by omega)
theorem dm_w288 {j : Nat} (h : j < 288) : vp_in (nI j) 288 := vp_in_nI h (by omega)
theorem dm_ix (s y : Nat) : (nI s * 8) + nI y = nI (s * 8 + y) := by
  show (nI s * nI 8) + nI y = _
  rw [pk_mul, nI_add]
theorem x_sp12 {post : Int32 → SX → Prop} (h : post 12 (nI B, xD, xn, xo, xc, xl, oc, nI B, xa, pk, xr, xw, en, cn, cb, cv, kd, na, nb, se, fn, tg, tn, pF, pS, cT, cB, bo, wN, wF, wB, wV)) : wpX_spend post (nI B, xD, xn, xo, xc, xl, oc, nI B, xa, pk, xr, xw, en, cn, cb, cv, kd, na, nb, se, fn, tg, tn, pF, pS, cT, cB, bo, wN, wF, wB, wV) := br_t rfl h
theorem x_sp0 {post : Int32 → SX → Prop} (hu : un < B) (hB : B ≤ 64) (h : post 0 (nI B, xD, xn, xo, xc, xl, oc, nI (un + 1), xa, pk, xr, xw, en, cn, cb, cv, kd, na, nb, se, fn, tg, tn, pF, pS, cT, cB, bo, wN, wF, wB, wV)) : wpX_spend post (nI B, xD, xn, xo, xc, xl, oc, nI un, xa, pk, xr, xw, en, cn, cb, cv, kd, na, nb, se, fn, tg, tn, pF, pS, cT, cB, bo, wN, wF, wB, wV) :=
  br_f (fun e => by have := (nI_eq (by omega) (by omega)).mp e; omega) (nm_r (nI_1 un) h)
theorem x_mkc {post : Int64 → SX → Prop} {p1 : Int32} (hi : i < 32) (hu : un < 65) (h : post (dm_val 3 (nI un)) (xB, xD, xn, xo, xc, xl, oc, nI un, xa, pk, xr, xw, en, cn, cb, cv, kd, na, nb, se, fn, tg, tn, pF, pS, upd cT un (tg i), upd cB un p1, bo, wN, wF, wB, wV)) : wpX_makeClosure post (xB, xD, xn, xo, xc, xl, oc, nI un, xa, pk, xr, xw, en, cn, cb, cv, kd, na, nb, se, fn, tg, tn, pF, pS, cT, cB, bo, wN, wF, wB, wV) (nI i) p1 := by
  refine ⟨dm_w32 hi, dm_w65 hu, ?_⟩
  rw [nI_clamp (show i < 2 ^ 31 by omega)]
  exact nm_r (dm_up2 (by omega)) ⟨dm_w65 hu, nm_r (dm_up2 (by omega)) h⟩
theorem x_cp2 {post : SX → Prop} (hst : s < t) (ht : t < 65) (h : post (xB, xD, xn, xo, xc, xl, oc, xu, xa, pk, xr, xw, en, cn, cb, cv, kd, na, nb, se, fn, tg, tn, pF, pS, cT, cB, dm_cp bo s t 8, wN, wF, wB, wV)) : ∀ d k, k + d = 8 → wX_copyBindings_2 post (nI s) (nI t) xB xD xn xo xc xl oc xu xa pk xr xw en cn cb cv (d + 1) (nI k) kd na nb se fn tg tn pF pS cT cB (dm_cp bo s t k) wN wF wB wV := by
  intro d
  induction d with
  | zero =>
    intro k hk
    have e : k = 8 := by omega
    subst e
    exact br_t (nI_le (a := 8) (Nat.le_refl _) (by omega)) h
  | succ d ih =>
    intro k hk
    refine br_f (nI_ge (b := 8) (by omega) (by omega)) ⟨?_, ?_, ?_⟩
    · rw [dm_ix]
      exact vp_in_nI (by omega) (by omega)
    · rw [dm_ix]
      exact vp_in_nI (by omega) (by omega)
    · refine nm_r (show _ = dm_cp bo s t (k + 1) from ?_) (nm_r (nI_1 k) (ih (k + 1) (by omega)))
      rw [dm_ix, dm_ix, nI_clamp (by omega), nI_clamp (by omega)]
      exact dm_cps hst (by omega)
theorem x_copy {post : SX → Prop} (hst : s < t) (ht : t < 65) (h : post (xB, xD, xn, xo, xc, xl, oc, xu, xa, pk, xr, xw, en, cn, cb, cv, kd, na, nb, se, fn, tg, tn, pF, pS, cT, cB, dm_cp bo s t 8, wN, wF, wB, wV)) : wpX_copyBindings post (xB, xD, xn, xo, xc, xl, oc, xu, xa, pk, xr, xw, en, cn, cb, cv, kd, na, nb, se, fn, tg, tn, pF, pS, cT, cB, bo, wN, wF, wB, wV) (nI s) (nI t) := by
  refine ⟨8 + 1, ?_⟩
  have g := x_cp2 hst ht h 8 0 (by omega)
  rw [dm_cp0] at g
  exact g
theorem x_bnd {post : SX → Prop} {v : Int64} (ht : t < 65) (hy : y < 8) (h : post (xB, xD, xn, xo, xc, xl, oc, xu, xa, pk, xr, xw, en, cn, cb, cv, kd, na, nb, se, fn, tg, tn, pF, pS, cT, cB, vp_updL bo (t * 8 + y) v, wN, wF, wB, wV)) : wpX_bind post (xB, xD, xn, xo, xc, xl, oc, xu, xa, pk, xr, xw, en, cn, cb, cv, kd, na, nb, se, fn, tg, tn, pF, pS, cT, cB, bo, wN, wF, wB, wV) (nI t) (nI y) v := by
  refine ⟨?_, ?_⟩
  · rw [dm_ix]
    exact vp_in_nI (by omega) (by omega)
  · refine nm_r ?_ h
    rw [dm_ix, nI_clamp (by omega)]
/-! entering -/
theorem x_ef12 {post : Int32 → SX → Prop} {q : Int32} (h : post 12 (nI B, xD, xn, xo, xc, xl, oc, nI B, xa, pk, xr, xw, en, cn, cb, cv, kd, na, nb, se, fn, tg, tn, pF, pS, cT, cB, bo, wN, wF, wB, wV)) : wpX_enterFun post (nI B, xD, xn, xo, xc, xl, oc, nI B, xa, pk, xr, xw, en, cn, cb, cv, kd, na, nb, se, fn, tg, tn, pF, pS, cT, cB, bo, wN, wF, wB, wV) q := by
  unfold wpX_enterFun
  exact x_sp12 (br_f (by decide) h)
theorem x_ef {post : Int32 → SX → Prop} (hi : i < 32) (hu : un < B) (hB : B ≤ 64) (h : post 0 (nI B, xD, xn, xo, xc, xl, oc, nI (un + 1), xa, pk, xr, xw, 0, cn, cb, dm_val 3 (nI (un + 1)), kd, na, nb, se, fn, tg, tn, pF, pS, upd cT (un + 1) (tg i), upd cB (un + 1) cb, bo, wN, wF, wB, wV)) : wpX_enterFun post (nI B, xD, xn, xo, xc, xl, oc, nI un, xa, pk, xr, xw, en, cn, cb, cv, kd, na, nb, se, fn, tg, tn, pF, pS, cT, cB, bo, wN, wF, wB, wV) (nI i) := by
  have hu2 : un + 1 < 65 := by omega
  unfold wpX_enterFun
  exact x_sp0 hu hB (br_t rfl (x_mkc hi hu2 h))
theorem x_el12 {post : Int32 → SX → Prop} {q : Int32} (h : post 12 (nI B, xD, xn, xo, xc, xl, oc, nI B, xa, pk, xr, xw, en, cn, cb, cv, kd, na, nb, se, fn, tg, tn, pF, pS, cT, cB, bo, wN, wF, wB, wV)) : wpX_enterLetRec post (nI B, xD, xn, xo, xc, xl, oc, nI B, xa, pk, xr, xw, en, cn, cb, cv, kd, na, nb, se, fn, tg, tn, pF, pS, cT, cB, bo, wN, wF, wB, wV) q := by
  unfold wpX_enterLetRec
  exact x_sp12 (br_f (by decide) h)
theorem x_el {post : Int32 → SX → Prop} {n : Nat} (hn : n ≤ 32) (hi : i + 1 < n) (qA : na i = nI y) (hy : y < 8) (hs : s ≤ un) (S : se (i + 1) = nI (dm_E kd (i + 1))) (hu : un < B) (hB : B ≤ 64) (h : post 0 (nI B, xD, xn, xo, xc, xl, oc, nI (un + 1), xa, pk, xr, xw, 1, nI (dm_ch kd i 1), nI (un + 1), cv, kd, na, nb, se, fn, tg, tn, pF, pS, upd cT (un + 1) (tg i), upd cB (un + 1) (nI s), vp_updL (dm_cp bo s (un + 1) 8) ((un + 1) * 8 + y) (dm_val 3 (nI (un + 1))), wN, wF, wB, wV)) : wpX_enterLetRec post (nI B, xD, xn, xo, xc, xl, oc, nI un, xa, pk, xr, xw, en, cn, nI s, cv, kd, na, nb, se, fn, tg, tn, pF, pS, cT, cB, bo, wN, wF, wB, wV) (nI i) := by
  have hu2 : un + 1 < 65 := by omega
  have hi2 : i < 32 := by omega
  have hs2 : s < un + 1 := by omega
  unfold wpX_enterLetRec
  refine x_sp0 hu hB (br_t rfl (x_mkc hi2 hu2 (x_copy hs2 hu2 ⟨dm_w32 hi2, ?_⟩)))
  rw [dm_at2 (g := na) (by omega) qA]
  exact x_bnd hu2 hy (x_sec hn hi S h)
theorem x_mp12 {post : Int32 → SX → Prop} {v1 v2 : Int64} (h : post 12 (nI B, xD, xn, xo, xc, xl, oc, nI B, xa, pk, xr, xw, en, cn, cb, cv, kd, na, nb, se, fn, tg, tn, pF, pS, cT, cB, bo, wN, wF, wB, wV)) : wpX_makePair post (nI B, xD, xn, xo, xc, xl, oc, nI B, xa, pk, xr, xw, en, cn, cb, cv, kd, na, nb, se, fn, tg, tn, pF, pS, cT, cB, bo, wN, wF, wB, wV) v1 v2 := by
  unfold wpX_makePair
  exact x_sp12 (br_f (by decide) h)
theorem x_mp {post : Int32 → SX → Prop} {v1 v2 : Int64} (hu : un < B) (hB : B ≤ 64) (h : post 0 (nI B, xD, xn, xo, xc, xl, oc, nI (un + 1), xa, pk, xr, xw, 0, cn, cb, dm_val 2 (nI (un + 1)), kd, na, nb, se, fn, tg, tn, vp_updL pF (un + 1) v1, vp_updL pS (un + 1) v2, cT, cB, bo, wN, wF, wB, wV)) : wpX_makePair post (nI B, xD, xn, xo, xc, xl, oc, nI un, xa, pk, xr, xw, en, cn, cb, cv, kd, na, nb, se, fn, tg, tn, pF, pS, cT, cB, bo, wN, wF, wB, wV) v1 v2 := by
  have hu2 : un + 1 < 65 := by omega
  unfold wpX_makePair
  exact x_sp0 hu hB (br_t rfl ⟨dm_w65 hu2, nm_r (dm_upL (by omega)) ⟨dm_w65 hu2, nm_r (dm_upL (by omega)) h⟩⟩)
theorem x_rl12 {post : Int32 → SX → Prop} {q : Int32} (h : post 12 (nI B, xD, xn, xo, xc, xl, oc, nI B, xa, pk, xr, nI w, en, cn, cb, cv, kd, na, nb, se, fn, tg, tn, pF, pS, cT, cB, bo, wN, wF, wB, wV)) : wpX_resumeLet post (nI B, xD, xn, xo, xc, xl, oc, nI B, xa, pk, xr, nI (w + 1), en, cn, cb, cv, kd, na, nb, se, fn, tg, tn, pF, pS, cT, cB, bo, wN, wF, wB, wV) q := by
  unfold wpX_resumeLet
  exact nm_r (nI_pred w) (x_sp12 (br_f (by decide) h))
theorem x_rl {post : Int32 → SX → Prop} {n : Nat} (hn : n ≤ 32) (hi : i + 1 < n) (S : se (i + 1) = nI (dm_E kd (i + 1))) (hw : w < 288) (qB : wB w = nI s) (qA : na i = nI y) (hy : y < 8) (hs : s ≤ un) (hu : un < B) (hB : B ≤ 64) (h : post 0 (nI B, xD, xn, xo, xc, xl, oc, nI (un + 1), xa, pk, xr, nI w, 1, nI (dm_ch kd i 1), nI (un + 1), cv, kd, na, nb, se, fn, tg, tn, pF, pS, cT, cB, vp_updL (dm_cp bo s (un + 1) 8) ((un + 1) * 8 + y) cv, wN, wF, wB, wV)) : wpX_resumeLet post (nI B, xD, xn, xo, xc, xl, oc, nI un, xa, pk, xr, nI (w + 1), en, cn, cb, cv, kd, na, nb, se, fn, tg, tn, pF, pS, cT, cB, bo, wN, wF, wB, wV) (nI i) := by
  have hu2 : un + 1 < 65 := by omega
  have hi2 : i < 32 := by omega
  have hs2 : s < un + 1 := by omega
  unfold wpX_resumeLet
  refine nm_r (nI_pred w) (x_sp0 hu hB (br_t rfl ⟨dm_w288 hw, ?_⟩))
  rw [dm_at2 (g := wB) (by omega) qB]
  refine x_copy hs2 hu2 ⟨dm_w32 hi2, ?_⟩
  rw [dm_at2 (g := na) (by omega) qA]
  exact x_bnd hu2 hy (x_sec hn hi S h)
theorem x_e_num {post : Int32 → SX → Prop} (hi : i < 32) (qK : kd i = 1) (h : post 0 (xB, xD, xn, xo, xc, xl, oc, xu, xa, pk, xr, xw, 0, nI i, cb, dm_val 1 (na i), kd, na, nb, se, fn, tg, tn, pF, pS, cT, cB, bo, wN, wF, wB, wV)) : wpX_enterNode post (xB, xD, xn, xo, xc, xl, oc, xu, xa, pk, xr, xw, en, nI i, cb, cv, kd, na, nb, se, fn, tg, tn, pF, pS, cT, cB, bo, wN, wF, wB, wV) := by
  refine ⟨dm_w32 hi, nm_r (dm_at2 (by omega) qK) (br_t rfl ⟨dm_w32 hi, ?_⟩)⟩
  rw [dm_at2 (g := na) (by omega) rfl]
  exact h
theorem x_e_var {post : Int32 → SX → Prop} (hi : i < 32) (qK : kd i = 2) (qA : na i = nI y) (hy : y < 8) (hs : s < 65) (h : post 0 (xB, xD, xn, xo, xc, xl, oc, xu, xa, pk, xr, xw, 0, nI i, nI s, bo (s * 8 + y), kd, na, nb, se, fn, tg, tn, pF, pS, cT, cB, bo, wN, wF, wB, wV)) : wpX_enterNode post (xB, xD, xn, xo, xc, xl, oc, xu, xa, pk, xr, xw, en, nI i, nI s, cv, kd, na, nb, se, fn, tg, tn, pF, pS, cT, cB, bo, wN, wF, wB, wV) := by
  refine ⟨dm_w32 hi, nm_r (dm_at2 (by omega) qK) (br_f (by decide) (br_t rfl ⟨dm_w32 hi, ?_⟩))⟩
  rw [dm_at2 (g := na) (by omega) qA, dm_ix]
  refine ⟨vp_in_nI (by omega) (by omega), ?_⟩
  rw [dm_atL (g := bo) (by omega)]
  exact h
theorem x_e_fun12 {post : Int32 → SX → Prop} (hi : i < 32) (qK : kd i = 13) (h : post 12 (nI B, xD, xn, xo, xc, xl, oc, nI B, xa, pk, xr, xw, en, nI i, cb, cv, kd, na, nb, se, fn, tg, tn, pF, pS, cT, cB, bo, wN, wF, wB, wV)) : wpX_enterNode post (nI B, xD, xn, xo, xc, xl, oc, nI B, xa, pk, xr, xw, en, nI i, cb, cv, kd, na, nb, se, fn, tg, tn, pF, pS, cT, cB, bo, wN, wF, wB, wV) :=
  ⟨dm_w32 hi, nm_r (dm_at2 (by omega) qK) (br_f (by decide) (br_f (by decide) (br_t rfl (x_ef12 h))))⟩
theorem x_e_fun {post : Int32 → SX → Prop} (hi : i < 32) (qK : kd i = 13) (hu : un < B) (hB : B ≤ 64) (h : post 0 (nI B, xD, xn, xo, xc, xl, oc, nI (un + 1), xa, pk, xr, xw, 0, nI i, cb, dm_val 3 (nI (un + 1)), kd, na, nb, se, fn, tg, tn, pF, pS, upd cT (un + 1) (tg i), upd cB (un + 1) cb, bo, wN, wF, wB, wV)) : wpX_enterNode post (nI B, xD, xn, xo, xc, xl, oc, nI un, xa, pk, xr, xw, en, nI i, cb, cv, kd, na, nb, se, fn, tg, tn, pF, pS, cT, cB, bo, wN, wF, wB, wV) :=
  ⟨dm_w32 hi, nm_r (dm_at2 (by omega) qK) (br_f (by decide) (br_f (by decide) (br_t rfl (x_ef hi hu hB h))))⟩
theorem x_e_rec12 {post : Int32 → SX → Prop} (hi : i < 32) (qK : kd i = 15) (h : post 12 (nI B, xD, xn, xo, xc, xl, oc, nI B, xa, pk, xr, xw, en, nI i, cb, cv, kd, na, nb, se, fn, tg, tn, pF, pS, cT, cB, bo, wN, wF, wB, wV)) : wpX_enterNode post (nI B, xD, xn, xo, xc, xl, oc, nI B, xa, pk, xr, xw, en, nI i, cb, cv, kd, na, nb, se, fn, tg, tn, pF, pS, cT, cB, bo, wN, wF, wB, wV) :=
  ⟨dm_w32 hi, nm_r (dm_at2 (by omega) qK) (br_f (by decide) (br_f (by decide) (br_f (by decide) (br_t rfl (x_el12 h)))))⟩
theorem x_e_rec {post : Int32 → SX → Prop} {n : Nat} (hn : n ≤ 32) (hi : i + 1 < n) (qK : kd i = 15) (qA : na i = nI y) (hy : y < 8) (hs : s ≤ un) (S : se (i + 1) = nI (dm_E kd (i + 1))) (hu : un < B) (hB : B ≤ 64) (h : post 0 (nI B, xD, xn, xo, xc, xl, oc, nI (un + 1), xa, pk, xr, xw, 1, nI (dm_ch kd i 1), nI (un + 1), cv, kd, na, nb, se, fn, tg, tn, pF, pS, upd cT (un + 1) (tg i), upd cB (un + 1) (nI s), vp_updL (dm_cp bo s (un + 1) 8) ((un + 1) * 8 + y) (dm_val 3 (nI (un + 1))), wN, wF, wB, wV)) : wpX_enterNode post (nI B, xD, xn, xo, xc, xl, oc, nI un, xa, pk, xr, xw, en, nI i, nI s, cv, kd, na, nb, se, fn, tg, tn, pF, pS, cT, cB, bo, wN, wF, wB, wV) := by
  exact ⟨dm_w32 (by omega), nm_r (dm_at2 (by omega) qK) (br_f (by decide) (br_f (by decide) (br_f (by decide) (br_t rfl (x_el hn hi qA hy hs S hu hB h)))))⟩
theorem x_e_oth {post : Int32 → SX → Prop} (hi : i < 32) (kF : dm_kF (kd i)) (hw : w < 288) (h : post 0 (xB, xD, xn, xo, xc, xl, oc, xu, xa, pk, xr, nI (w + 1), 1, nI (i + 1), cb, cv, kd, na, nb, se, fn, tg, tn, pF, pS, cT, cB, bo, upd wN w (nI i), upd wF w 0, upd wB w cb, wV)) : wpX_enterNode post (xB, xD, xn, xo, xc, xl, oc, xu, xa, pk, xr, nI w, en, nI i, cb, cv, kd, na, nb, se, fn, tg, tn, pF, pS, cT, cB, bo, wN, wF, wB, wV) := by
  obtain ⟨n1, n2, n13, n15⟩ := dm_kF_n kF
  refine ⟨dm_w32 hi, nm_r (dm_at2 (by omega) rfl) (br_f n1 (br_f n2 (br_f n13 (br_f n15 ⟨dm_w288 hw, nm_r (dm_up2 (by omega)) ⟨dm_w288 hw, nm_r (dm_up2 (by omega)) ⟨dm_w288 hw, nm_r (dm_up2 (by omega)) (nm_r (nI_1 w) ?_)⟩⟩⟩))))⟩
  refine (show wpX_firstChild _ _ from ?_)
  unfold wpX_firstChild
  rw [nI_1]
  exact h
/-! resuming: w + 1 nodes wait -/
theorem x_r_D {post : Int32 → SX → Prop} (hw : w < 288) (qN : wN w = nI i) (hi : i < 32) (kD : dm_kB (kd i) ∨ kd i = 10) (h : wpX_resumeOperator post (xB, xD, xn, xo, xc, xl, oc, xu, xa, pk, xr, nI (w + 1), en, cn, cb, cv, kd, na, nb, se, fn, tg, tn, pF, pS, cT, cB, bo, wN, wF, wB, wV) (nI i)) : wpX_resumeNode post (xB, xD, xn, xo, xc, xl, oc, xu, xa, pk, xr, nI (w + 1), en, cn, cb, cv, kd, na, nb, se, fn, tg, tn, pF, pS, cT, cB, bo, wN, wF, wB, wV) := by
  refine nm_r (nI_pred w) ⟨dm_w288 hw, nm_r (dm_at2 (by omega) qN) ⟨dm_w32 hi, nm_r (dm_at2 (by omega) rfl) ?_⟩⟩
  rcases kD with (e | e | e | e | e | e) | e
  · exact br_t (by rw [e]; decide) h
  · exact br_t (by rw [e]; decide) h
  · exact br_t (by rw [e]; decide) h
  · exact br_t (by rw [e]; decide) h
  · exact br_t (by rw [e]; decide) h
  · exact br_t (by rw [e]; decide) h
  · exact br_f (by rw [e]; decide) (br_f (by rw [e]; decide) (br_f (by rw [e]; decide) (br_t e h)))
theorem x_esc {post : Int32 → SX → Prop} {n : Nat} (hn : n ≤ 32) (hi : i + 1 < n) (S : se (i + 1) = nI (dm_E kd (i + 1))) (hw : w < 288) (h : post 0 (xB, xD, xn, xo, xc, xl, oc, xu, xa, pk, xr, nI (w + 1), 1, nI (dm_ch kd i 1), wB w, cv, kd, na, nb, se, fn, tg, tn, pF, pS, cT, cB, bo, wN, upd wF w 1, wB, vp_updL wV w cv)) : wpX_enterSecondChild post (xB, xD, xn, xo, xc, xl, oc, xu, xa, pk, xr, nI (w + 1), en, cn, cb, cv, kd, na, nb, se, fn, tg, tn, pF, pS, cT, cB, bo, wN, wF, wB, wV) (nI i) := by
  refine nm_r (nI_pred w) ⟨dm_w288 hw, nm_r (dm_up2 (by omega)) ⟨dm_w288 hw, nm_r (dm_upL (by omega)) (x_sec hn hi S ⟨dm_w288 hw, ?_⟩)⟩⟩
  rw [dm_at2 (g := wB) (by omega) rfl]
  exact h
theorem x_r_one {post : Int32 → SX → Prop} {n : Nat} (hn : n ≤ 32) (hi : i + 1 < n) (S : se (i + 1) = nI (dm_E kd (i + 1))) (hw : w < 288) (qN : wN w = nI i) (qF : wF w = 0) (kS : dm_kS (kd i)) (h : post 0 (xB, xD, xn, xo, xc, xl, oc, xu, xa, pk, xr, nI (w + 1), 1, nI (dm_ch kd i 1), wB w, cv, kd, na, nb, se, fn, tg, tn, pF, pS, cT, cB, bo, wN, upd wF w 1, wB, vp_updL wV w cv)) : wpX_resumeNode post (xB, xD, xn, xo, xc, xl, oc, xu, xa, pk, xr, nI (w + 1), en, cn, cb, cv, kd, na, nb, se, fn, tg, tn, pF, pS, cT, cB, bo, wN, wF, wB, wV) := by
  by_cases k16 : kd i = 16
  · refine nm_r (nI_pred w) ⟨dm_w288 hw, nm_r (dm_at2 (by omega) qN) ⟨dm_w32 (by omega), nm_r (dm_at2 (by omega) k16) ?_⟩⟩
    refine br_f (by decide) (br_f (by decide) (br_f (by decide) (br_f (by decide) (br_f (by decide) (br_f (by decide) (br_f (by decide) (br_f (by decide) (br_f (by decide) (br_t rfl ?_)))))))))
    exact nm_r (nI_pred w) ⟨dm_w288 hw, br_t (dm_at2 (by omega) qF) (x_esc hn hi S hw h)⟩
  · have kD : dm_kB (kd i) ∨ kd i = 10 := by
      rcases kS with e | e | e | e | e | e | e | e
      · exact Or.inl (Or.inl e)
      · exact Or.inl (Or.inr (Or.inl e))
      · exact Or.inl (Or.inr (Or.inr (Or.inl e)))
      · exact Or.inl (Or.inr (Or.inr (Or.inr (Or.inl e))))
      · exact Or.inl (Or.inr (Or.inr (Or.inr (Or.inr (Or.inl e)))))
      · exact Or.inl (Or.inr (Or.inr (Or.inr (Or.inr (Or.inr e)))))
      · exact Or.inr e
      · exact absurd e k16
    refine x_r_D hw qN (by omega) kD ?_
    exact nm_r (nI_pred w) ⟨dm_w288 hw, br_t (dm_at2 (by omega) qF) (x_esc hn hi S hw h)⟩
theorem x_r_pair12 {post : Int32 → SX → Prop} (hw : w < 288) (qN : wN w = nI i) (hi : i < 32) (qF : wF w = 1) (qK : kd i = 10) (h : post 12 (nI B, xD, xn, xo, xc, xl, oc, nI B, xa, pk, xr, nI w, en, cn, cb, cv, kd, na, nb, se, fn, tg, tn, pF, pS, cT, cB, bo, wN, wF, wB, wV)) : wpX_resumeNode post (nI B, xD, xn, xo, xc, xl, oc, nI B, xa, pk, xr, nI (w + 1), en, cn, cb, cv, kd, na, nb, se, fn, tg, tn, pF, pS, cT, cB, bo, wN, wF, wB, wV) := by
  refine x_r_D hw qN hi (Or.inr qK) (nm_r (nI_pred w) ⟨dm_w288 hw, br_f (by rw [dm_at2 (g := wF) (by omega) qF]; decide) (nm_r (nI_pred w) ⟨dm_w32 hi, br_t (dm_at2 (by omega) qK) ⟨dm_w288 hw, ?_⟩⟩)⟩)
  exact x_mp12 h
theorem x_r_pair {post : Int32 → SX → Prop} (hw : w < 288) (qN : wN w = nI i) (hi : i < 32) (qF : wF w = 1) (qK : kd i = 10) (hu : un < B) (hB : B ≤ 64) (h : post 0 (nI B, xD, xn, xo, xc, xl, oc, nI (un + 1), xa, pk, xr, nI w, 0, cn, cb, dm_val 2 (nI (un + 1)), kd, na, nb, se, fn, tg, tn, vp_updL pF (un + 1) (wV w), vp_updL pS (un + 1) cv, cT, cB, bo, wN, wF, wB, wV)) : wpX_resumeNode post (nI B, xD, xn, xo, xc, xl, oc, nI un, xa, pk, xr, nI (w + 1), en, cn, cb, cv, kd, na, nb, se, fn, tg, tn, pF, pS, cT, cB, bo, wN, wF, wB, wV) := by
  refine x_r_D hw qN hi (Or.inr qK) (nm_r (nI_pred w) ⟨dm_w288 hw, br_f (by rw [dm_at2 (g := wF) (by omega) qF]; decide) (nm_r (nI_pred w) ⟨dm_w32 hi, br_t (dm_at2 (by omega) qK) ⟨dm_w288 hw, ?_⟩⟩)⟩)
  rw [dm_atL (g := wV) (by omega)]
  exact x_mp hu hB h
theorem x_r_bin {post : Int32 → SX → Prop} (hw : w < 288) (qN : wN w = nI i) (hi : i < 32) (qF : wF w = 1) (kB : dm_kB (kd i)) (h : wpX_operate post (xB, xD, xn, xo, xc, xl, oc, xu, xa, pk, xr, nI w, en, cn, cb, cv, kd, na, nb, se, fn, tg, tn, pF, pS, cT, cB, bo, wN, wF, wB, wV) (kd i) (wV w) cv) : wpX_resumeNode post (xB, xD, xn, xo, xc, xl, oc, xu, xa, pk, xr, nI (w + 1), en, cn, cb, cv, kd, na, nb, se, fn, tg, tn, pF, pS, cT, cB, bo, wN, wF, wB, wV) := by
  obtain ⟨n1, n2, n13, n15, n9, n11, n12, n14, n16, n10⟩ := dm_kB_n kB
  refine x_r_D hw qN hi (Or.inl kB) (nm_r (nI_pred w) ⟨dm_w288 hw, br_f (by rw [dm_at2 (g := wF) (by omega) qF]; decide) (nm_r (nI_pred w) ⟨dm_w32 hi, br_f (by rw [dm_at2 (g := kd) (by omega) rfl]; exact n10) ⟨dm_w32 hi, dm_w288 hw, ?_⟩⟩)⟩)
  rw [dm_at2 (g := kd) (by omega) rfl, dm_atL (g := wV) (by omega)]
  exact h
theorem x_b8a {post : Int32 → SX → Prop} {k : Int32} {v1 v2 : Int64} (hk : ¬ dm_kof v1 = 1) (h : post 8 (xB, xD, xn, xo, xc, xl, oc, xu, xa, pk, xr, xw, en, cn, cb, cv, kd, na, nb, se, fn, tg, tn, pF, pS, cT, cB, bo, wN, wF, wB, wV)) : wpX_operate post (xB, xD, xn, xo, xc, xl, oc, xu, xa, pk, xr, xw, en, cn, cb, cv, kd, na, nb, se, fn, tg, tn, pF, pS, cT, cB, bo, wN, wF, wB, wV) k v1 v2 := br_f hk h
theorem x_b8b {post : Int32 → SX → Prop} {k : Int32} {v1 v2 : Int64} (hk : dm_kof v1 = 1) (hk2 : ¬ dm_kof v2 = 1) (h : post 8 (xB, xD, xn, xo, xc, xl, oc, xu, xa, pk, xr, xw, en, cn, cb, cv, kd, na, nb, se, fn, tg, tn, pF, pS, cT, cB, bo, wN, wF, wB, wV)) : wpX_operate post (xB, xD, xn, xo, xc, xl, oc, xu, xa, pk, xr, xw, en, cn, cb, cv, kd, na, nb, se, fn, tg, tn, pF, pS, cT, cB, bo, wN, wF, wB, wV) k v1 v2 := br_t hk (br_f hk2 h)
theorem x_b11 {post : Int32 → SX → Prop} {v1 v2 : Int64} (hk : dm_kof v1 = 1) (hk2 : dm_kof v2 = 1) (hz : v2.toInt32 = 0) (h : post 11 (xB, xD, xn, xo, xc, xl, oc, xu, xa, pk, xr, xw, en, cn, cb, cv, kd, na, nb, se, fn, tg, tn, pF, pS, cT, cB, bo, wN, wF, wB, wV)) : wpX_operate post (xB, xD, xn, xo, xc, xl, oc, xu, xa, pk, xr, xw, en, cn, cb, cv, kd, na, nb, se, fn, tg, tn, pF, pS, cT, cB, bo, wN, wF, wB, wV) 6 v1 v2 :=
  br_t hk (br_t hk2 (br_f (by decide) (br_f (by decide) (br_f (by decide) (br_f (by decide) (br_f (by decide) (br_t rfl (br_t hz h))))))))
theorem x_b {post : Int32 → SX → Prop} {k : Int32} {v1 v2 : Int64} (hk : dm_kof v1 = 1) (hk2 : dm_kof v2 = 1) (hz : ¬ (k = 6 ∧ v2.toInt32 = 0)) (kB : dm_kB k) (h : post 0 (xB, xD, xn, xo, xc, xl, oc, xu, xa, pk, xr, xw, 0, cn, cb, dm_val 1 (dm_bin k v1.toInt32 v2.toInt32), kd, na, nb, se, fn, tg, tn, pF, pS, cT, cB, bo, wN, wF, wB, wV)) : wpX_operate post (xB, xD, xn, xo, xc, xl, oc, xu, xa, pk, xr, xw, en, cn, cb, cv, kd, na, nb, se, fn, tg, tn, pF, pS, cT, cB, bo, wN, wF, wB, wV) k v1 v2 := by
  have W : ∀ z, z = dm_bin k v1.toInt32 v2.toInt32 → wX_operate_147 post z xB xD xn xo xc xl oc xu xa pk xr xw en cn cb cv kd na nb se fn tg tn pF pS cT cB bo wN wF wB wV := by
    rintro z rfl
    exact h
  refine br_t hk (br_t hk2 ?_)
  rcases kB with rfl | rfl | rfl | rfl | rfl | rfl
  · exact br_f (by decide) (br_f (by decide) (br_t rfl (nm_e (W _ rfl))))
  · exact br_f (by decide) (br_f (by decide) (br_f (by decide) (br_t rfl (nm_e (W _ rfl)))))
  · exact br_f (by decide) (br_f (by decide) (br_f (by decide) (br_f (by decide) (br_t rfl (nm_e (W _ rfl))))))
  · have hz2 : ¬ v2.toInt32 = 0 := fun e => hz ⟨rfl, e⟩
    exact br_f (by decide) (br_f (by decide) (br_f (by decide) (br_f (by decide) (br_f (by decide) (br_t rfl (br_f hz2 ⟨hz2, nm_e (W _ rfl)⟩))))))
  · refine br_f (by decide) (br_f (by decide) (br_f (by decide) (br_f (by decide) (br_f (by decide) (br_f (by decide) (br_t rfl ?_))))))
    by_cases e : v2.toInt32 ≤ v1.toInt32
    · exact br_t e (W _ (if_pos e).symm)
    · exact br_f e (W _ (if_neg e).symm)
  · refine br_f (by decide) (br_t (by decide) ?_)
    by_cases e : v1.toInt32 = v2.toInt32
    · exact br_t e (W _ (if_pos e).symm)
    · exact br_f e (W _ (if_neg e).symm)
theorem x_r_if8 {post : Int32 → SX → Prop} (hw : w < 288) (qN : wN w = nI i) (hi : i < 32) (qK : kd i = 9) (hk : ¬ dm_kof cv = 1) (h : post 8 (xB, xD, xn, xo, xc, xl, oc, xu, xa, pk, xr, nI w, en, cn, cb, cv, kd, na, nb, se, fn, tg, tn, pF, pS, cT, cB, bo, wN, wF, wB, wV)) : wpX_resumeNode post (xB, xD, xn, xo, xc, xl, oc, xu, xa, pk, xr, nI (w + 1), en, cn, cb, cv, kd, na, nb, se, fn, tg, tn, pF, pS, cT, cB, bo, wN, wF, wB, wV) :=
  nm_r (nI_pred w) ⟨dm_w288 hw, nm_r (dm_at2 (by omega) qN) ⟨dm_w32 hi, nm_r (dm_at2 (by omega) qK) (br_f (by decide) (br_f (by decide) (br_t rfl (nm_r (nI_pred w) (br_f hk h)))))⟩⟩
theorem x_r_if {post : Int32 → SX → Prop} {n b : Nat} (hn : n ≤ 32) (hi : i + 1 < n) (hi2 : dm_ch kd i 1 < n) (S : ∀ j, j < n → se j = nI (dm_E kd j)) (hw : w < 288) (qN : wN w = nI i) (qK : kd i = 9) (hk : dm_kof cv = 1) (hb : (cv.toInt32 = 0 ∧ b = 2) ∨ (¬ cv.toInt32 = 0 ∧ b = 1)) (h : post 0 (xB, xD, xn, xo, xc, xl, oc, xu, xa, pk, xr, nI w, 1, nI (dm_ch kd i b), wB w, cv, kd, na, nb, se, fn, tg, tn, pF, pS, cT, cB, bo, wN, wF, wB, wV)) : wpX_resumeNode post (xB, xD, xn, xo, xc, xl, oc, xu, xa, pk, xr, nI (w + 1), en, cn, cb, cv, kd, na, nb, se, fn, tg, tn, pF, pS, cT, cB, bo, wN, wF, wB, wV) := by
  have W : wX_resumeIf_47 post (nI (dm_ch kd i b)) xB xD xn xo xc xl oc xu xa pk xr (nI w) en cn cb cv kd na nb se fn tg tn pF pS cT cB bo wN wF wB wV := by
    refine ⟨dm_w288 hw, ?_⟩
    rw [dm_at2 (g := wB) (by omega) rfl]
    exact h
  refine nm_r (nI_pred w) ⟨dm_w288 hw, nm_r (dm_at2 (by omega) qN) ⟨dm_w32 (by omega), nm_r (dm_at2 (by omega) qK) (br_f (by decide) (br_f (by decide) (br_t rfl (nm_r (nI_pred w) (br_t hk ?_)))))⟩⟩
  rcases hb with ⟨z, rfl⟩ | ⟨z, rfl⟩
  · refine br_t z ⟨?_, ?_⟩
    · rw [nI_1]
      exact dm_w32 (by omega)
    · have e1 : se (nI i + 1).toNatClampNeg = nI (dm_ch kd i 1) := by
        rw [nI_1]
        exact dm_at2 (by omega) (S _ hi)
      rw [e1]
      refine ⟨dm_w32 (by omega), ?_⟩
      rw [dm_at2 (g := se) (by omega) (S _ hi2)]
      exact W
  · exact br_f z (x_sec hn hi (S _ hi) W)
theorem x_r_part10 {post : Int32 → SX → Prop} (hw : w < 288) (qN : wN w = nI i) (hi : i < 32) (qK : kd i = 11 ∨ kd i = 12) (hk : ¬ dm_kof cv = 2) (h : post 10 (xB, xD, xn, xo, xc, xl, oc, xu, xa, pk, xr, nI w, en, cn, cb, cv, kd, na, nb, se, fn, tg, tn, pF, pS, cT, cB, bo, wN, wF, wB, wV)) : wpX_resumeNode post (xB, xD, xn, xo, xc, xl, oc, xu, xa, pk, xr, nI (w + 1), en, cn, cb, cv, kd, na, nb, se, fn, tg, tn, pF, pS, cT, cB, bo, wN, wF, wB, wV) := by
  refine nm_r (nI_pred w) ⟨dm_w288 hw, nm_r (dm_at2 (by omega) qN) ⟨dm_w32 hi, nm_r (dm_at2 (by omega) rfl) ?_⟩⟩
  rcases qK with e | e <;> rw [e]
  · exact br_f (by decide) (br_f (by decide) (br_f (by decide) (br_f (by decide) (br_t rfl (nm_r (nI_pred w) (br_f hk h))))))
  · exact br_f (by decide) (br_f (by decide) (br_f (by decide) (br_f (by decide) (br_f (by decide) (br_t rfl (nm_r (nI_pred w) (br_f hk h)))))))
theorem x_r_fst {post : Int32 → SX → Prop} {p : Nat} (hw : w < 288) (qN : wN w = nI i) (hi : i < 32) (qK : kd i = 11) (hk : dm_kof cv = 2) (hd : cv.toInt32 = nI p) (hp : p < 65) (h : post 0 (xB, xD, xn, xo, xc, xl, oc, xu, xa, pk, xr, nI w, 0, cn, cb, pF p, kd, na, nb, se, fn, tg, tn, pF, pS, cT, cB, bo, wN, wF, wB, wV)) : wpX_resumeNode post (xB, xD, xn, xo, xc, xl, oc, xu, xa, pk, xr, nI (w + 1), en, cn, cb, cv, kd, na, nb, se, fn, tg, tn, pF, pS, cT, cB, bo, wN, wF, wB, wV) := by
  have e : ∀ g : Nat → Int64, g cv.toInt32.toNatClampNeg = g p := by
    intro g
    rw [hd, nI_clamp (by omega)]
  refine nm_r (nI_pred w) ⟨dm_w288 hw, nm_r (dm_at2 (by omega) qN) ⟨dm_w32 hi, nm_r (dm_at2 (by omega) qK) (br_f (by decide) (br_f (by decide) (br_f (by decide) (br_f (by decide) (br_t rfl (nm_r (nI_pred w) (br_t hk ⟨dm_w32 hi, br_t (dm_at2 (by omega) qK) ⟨by rw [hd]; exact dm_w65 hp, ?_⟩⟩)))))))⟩⟩
  rw [e pF]
  exact h
theorem x_r_snd {post : Int32 → SX → Prop} {p : Nat} (hw : w < 288) (qN : wN w = nI i) (hi : i < 32) (qK : kd i = 12) (hk : dm_kof cv = 2) (hd : cv.toInt32 = nI p) (hp : p < 65) (h : post 0 (xB, xD, xn, xo, xc, xl, oc, xu, xa, pk, xr, nI w, 0, cn, cb, pS p, kd, na, nb, se, fn, tg, tn, pF, pS, cT, cB, bo, wN, wF, wB, wV)) : wpX_resumeNode post (xB, xD, xn, xo, xc, xl, oc, xu, xa, pk, xr, nI (w + 1), en, cn, cb, cv, kd, na, nb, se, fn, tg, tn, pF, pS, cT, cB, bo, wN, wF, wB, wV) := by
  have e : ∀ g : Nat → Int64, g cv.toInt32.toNatClampNeg = g p := by
    intro g
    rw [hd, nI_clamp (by omega)]
  refine nm_r (nI_pred w) ⟨dm_w288 hw, nm_r (dm_at2 (by omega) qN) ⟨dm_w32 hi, nm_r (dm_at2 (by omega) qK) (br_f (by decide) (br_f (by decide) (br_f (by decide) (br_f (by decide) (br_f (by decide) (br_t rfl (nm_r (nI_pred w) (br_t hk ⟨dm_w32 hi, br_f (by rw [dm_at2 (g := kd) (by omega) qK]; decide) ⟨by rw [hd]; exact dm_w65 hp, ?_⟩⟩))))))))⟩⟩
  rw [e pS]
  exact h
theorem x_r_let12 {post : Int32 → SX → Prop} (hw : w < 288) (qN : wN w = nI i) (hi : i < 32) (qK : kd i = 14) (h : post 12 (nI B, xD, xn, xo, xc, xl, oc, nI B, xa, pk, xr, nI w, en, cn, cb, cv, kd, na, nb, se, fn, tg, tn, pF, pS, cT, cB, bo, wN, wF, wB, wV)) : wpX_resumeNode post (nI B, xD, xn, xo, xc, xl, oc, nI B, xa, pk, xr, nI (w + 1), en, cn, cb, cv, kd, na, nb, se, fn, tg, tn, pF, pS, cT, cB, bo, wN, wF, wB, wV) :=
  nm_r (nI_pred w) ⟨dm_w288 hw, nm_r (dm_at2 (by omega) qN) ⟨dm_w32 hi, nm_r (dm_at2 (by omega) qK) (br_f (by decide) (br_f (by decide) (br_f (by decide) (br_f (by decide) (br_f (by decide) (br_f (by decide) (br_f (by decide) (br_t rfl (x_rl12 h)))))))))⟩⟩
theorem x_r_let {post : Int32 → SX → Prop} {n : Nat} (hn : n ≤ 32) (hi : i + 1 < n) (S : se (i + 1) = nI (dm_E kd (i + 1))) (hw : w < 288) (qN : wN w = nI i) (qB : wB w = nI s) (qK : kd i = 14) (qA : na i = nI y) (hy : y < 8) (hs : s ≤ un) (hu : un < B) (hB : B ≤ 64) (h : post 0 (nI B, xD, xn, xo, xc, xl, oc, nI (un + 1), xa, pk, xr, nI w, 1, nI (dm_ch kd i 1), nI (un + 1), cv, kd, na, nb, se, fn, tg, tn, pF, pS, cT, cB, vp_updL (dm_cp bo s (un + 1) 8) ((un + 1) * 8 + y) cv, wN, wF, wB, wV)) : wpX_resumeNode post (nI B, xD, xn, xo, xc, xl, oc, nI un, xa, pk, xr, nI (w + 1), en, cn, cb, cv, kd, na, nb, se, fn, tg, tn, pF, pS, cT, cB, bo, wN, wF, wB, wV) :=
  nm_r (nI_pred w) ⟨dm_w288 hw, nm_r (dm_at2 (by omega) qN) ⟨dm_w32 (by omega), nm_r (dm_at2 (by omega) qK) (br_f (by decide) (br_f (by decide) (br_f (by decide) (br_f (by decide) (br_f (by decide) (br_f (by decide) (br_f (by decide) (br_t rfl (x_rl hn hi S hw qB qA hy hs hu hB h)))))))))⟩⟩
theorem x_r_app {post : Int32 → SX → Prop} (hw : w < 288) (qN : wN w = nI i) (hi : i < 32) (qF : wF w = 1) (qK : kd i = 16) (h : wpX_apply post (xB, xD, xn, xo, xc, xl, oc, xu, xa, pk, xr, nI (w + 1), en, cn, cb, cv, kd, na, nb, se, fn, tg, tn, pF, pS, cT, cB, bo, wN, upd wF w 2, wB, wV) (wV w) cv) : wpX_resumeNode post (xB, xD, xn, xo, xc, xl, oc, xu, xa, pk, xr, nI (w + 1), en, cn, cb, cv, kd, na, nb, se, fn, tg, tn, pF, pS, cT, cB, bo, wN, wF, wB, wV) := by
  refine nm_r (nI_pred w) ⟨dm_w288 hw, nm_r (dm_at2 (by omega) qN) ⟨dm_w32 (by omega), nm_r (dm_at2 (by omega) qK) ?_⟩⟩
  refine br_f (by decide) (br_f (by decide) (br_f (by decide) (br_f (by decide) (br_f (by decide) (br_f (by decide) (br_f (by decide) (br_f (by decide) (br_f (by decide) (br_t rfl ?_)))))))))
  refine nm_r (nI_pred w) ⟨dm_w288 hw, br_f (by rw [dm_at2 (g := wF) (by omega) qF]; decide) ⟨dm_w288 hw, br_t (dm_at2 (by omega) qF) ⟨dm_w288 hw, nm_r (dm_up2 (by omega)) ⟨dm_w288 hw, ?_⟩⟩⟩⟩
  rw [dm_atL (g := wV) (by omega)]
  exact h
theorem x_r_body {post : Int32 → SX → Prop} (hw : w < 288) (qN : wN w = nI i) (hi : i < 32) (qF : wF w = 2) (qK : kd i = 16) (h : post 0 (xB, xD, xn, xo, xc, xl, oc, xu, nI a, pk, xr, nI w, en, cn, cb, cv, kd, na, nb, se, fn, tg, tn, pF, pS, cT, cB, bo, wN, wF, wB, wV)) : wpX_resumeNode post (xB, xD, xn, xo, xc, xl, oc, xu, nI (a + 1), pk, xr, nI (w + 1), en, cn, cb, cv, kd, na, nb, se, fn, tg, tn, pF, pS, cT, cB, bo, wN, wF, wB, wV) := by
  refine nm_r (nI_pred w) ⟨dm_w288 hw, nm_r (dm_at2 (by omega) qN) ⟨dm_w32 (by omega), nm_r (dm_at2 (by omega) qK) ?_⟩⟩
  refine br_f (by decide) (br_f (by decide) (br_f (by decide) (br_f (by decide) (br_f (by decide) (br_f (by decide) (br_f (by decide) (br_f (by decide) (br_f (by decide) (br_t rfl ?_)))))))))
  exact nm_r (nI_pred w) ⟨dm_w288 hw, br_f (by rw [dm_at2 (g := wF) (by omega) qF]; decide) ⟨dm_w288 hw, br_f (by rw [dm_at2 (g := wF) (by omega) qF]; decide) (nm_r (nI_pred w) (nm_r (nI_pred a) h))⟩⟩
theorem x_a9 {post : Int32 → SX → Prop} {v1 v2 : Int64} (hk : ¬ dm_kof v1 = 3) (h : post 9 (xB, xD, xn, xo, xc, xl, oc, xu, xa, pk, xr, xw, en, cn, cb, cv, kd, na, nb, se, fn, tg, tn, pF, pS, cT, cB, bo, wN, wF, wB, wV)) : wpX_apply post (xB, xD, xn, xo, xc, xl, oc, xu, xa, pk, xr, xw, en, cn, cb, cv, kd, na, nb, se, fn, tg, tn, pF, pS, cT, cB, bo, wN, wF, wB, wV) v1 v2 := br_f hk h
theorem x_a12 {post : Int32 → SX → Prop} {v1 v2 : Int64} (hk : dm_kof v1 = 3) (h : post 12 (nI B, xD, xn, xo, xc, xl, oc, nI B, xa, pk, xr, xw, en, cn, cb, cv, kd, na, nb, se, fn, tg, tn, pF, pS, cT, cB, bo, wN, wF, wB, wV)) : wpX_apply post (nI B, xD, xn, xo, xc, xl, oc, nI B, xa, pk, xr, xw, en, cn, cb, cv, kd, na, nb, se, fn, tg, tn, pF, pS, cT, cB, bo, wN, wF, wB, wV) v1 v2 := br_t hk (br_t rfl h)
theorem x_a13 {post : Int32 → SX → Prop} {v1 v2 : Int64} (hk : dm_kof v1 = 3) (hu : un < B) (hB : B ≤ 64) (h : post 13 (nI B, nI D, xn, xo, xc, xl, oc, nI un, nI D, pk, xr, xw, en, cn, cb, cv, kd, na, nb, se, fn, tg, tn, pF, pS, cT, cB, bo, wN, wF, wB, wV)) : wpX_apply post (nI B, nI D, xn, xo, xc, xl, oc, nI un, nI D, pk, xr, xw, en, cn, cb, cv, kd, na, nb, se, fn, tg, tn, pF, pS, cT, cB, bo, wN, wF, wB, wV) v1 v2 :=
  br_t hk (br_f (fun e => by have := (nI_eq (by omega) (by omega)).mp e; omega) (br_t rfl h))
theorem x_a0 {post : Int32 → SX → Prop} {v1 v2 : Int64} {p l q z : Nat} (hk : dm_kof v1 = 3) (hd : v1.toInt32 = nI p) (hp : p < 65) (hu : un < B) (hB : B ≤ 64) (ha : a < D) (hD : D ≤ 8) (qT : cT p = nI q) (hq : q < 32) (qL : tn q = nI l) (hl : l < 32) (qS : cB p = nI s) (hs : s ≤ un) (qA : na l = nI y) (hy : y < 8) (qB : kd l = 15 → nb l = nI z) (hz : z < 8)
    (hf : ¬ kd l = 15 → post 0 (nI B, nI D, xn, xo, xc, xl, oc, nI (un + 1), nI (a + 1), dm_pk a pk, xr, xw, 1, nI (l + 1), nI (un + 1), cv, kd, na, nb, se, fn, tg, tn, pF, pS, cT, cB, vp_updL (dm_cp bo s (un + 1) 8) ((un + 1) * 8 + y) v2, wN, wF, wB, wV))
    (hr : kd l = 15 → post 0 (nI B, nI D, xn, xo, xc, xl, oc, nI (un + 1), nI (a + 1), dm_pk a pk, xr, xw, 1, nI (l + 1), nI (un + 1), cv, kd, na, nb, se, fn, tg, tn, pF, pS, cT, cB, vp_updL (vp_updL (dm_cp bo s (un + 1) 8) ((un + 1) * 8 + y) v1) ((un + 1) * 8 + z) v2, wN, wF, wB, wV)) : wpX_apply post (nI B, nI D, xn, xo, xc, xl, oc, nI un, nI a, pk, xr, xw, en, cn, cb, cv, kd, na, nb, se, fn, tg, tn, pF, pS, cT, cB, bo, wN, wF, wB, wV) v1 v2 := by
  have W : ∀ k', k' = dm_pk a pk → wX_apply_78 post v1 v2 (nI B) (nI D) xn xo xc xl oc (nI (un + 1)) (nI (a + 1)) k' xr xw en cn cb cv kd na nb se fn tg tn pF pS cT cB bo wN wF wB wV := by
    rintro k' rfl
    have e1 : ∀ g : Nat → Int32, g v1.toInt32.toNatClampNeg = g p := by
      intro g
      rw [hd, nI_clamp (by omega)]
    have hin : vp_in v1.toInt32 65 := by
      rw [hd]
      exact dm_w65 hp
    refine ⟨hin, ?_⟩
    rw [e1 cT, e1 cB, qT, qS]
    refine ⟨dm_w32 hq, nm_r (dm_at2 (by omega) qL) ⟨hin, x_copy (by omega) (by omega) ⟨dm_w32 hl, ?_⟩⟩⟩
    by_cases c : kd l = 15
    · refine br_t (dm_at2 (by omega) c) ⟨dm_w32 hl, ?_⟩
      rw [dm_at2 (g := na) (by omega) qA]
      refine x_bnd (by omega) hy ⟨dm_w32 hl, ?_⟩
      rw [dm_at2 (g := nb) (by omega) (qB c)]
      refine x_bnd (by omega) hz ?_
      unfold wX_enterBody_98 wpX_firstChild
      rw [nI_1]
      exact hr c
    · refine br_f (by rw [dm_at2 (g := kd) (by omega) rfl]; exact c) ⟨dm_w32 hl, ?_⟩
      rw [dm_at2 (g := na) (by omega) qA]
      refine x_bnd (by omega) hy ?_
      unfold wX_enterBody_98 wpX_firstChild
      rw [nI_1]
      exact hf c
  refine br_t hk (br_f (fun e => by have := (nI_eq (by omega) (by omega)).mp e; omega) (br_f (fun e => by have := (nI_eq (by omega) (by omega)).mp e; omega) (nm_r (nI_1 un) (nm_r (nI_1 a) ?_))))
  by_cases e : nI (a + 1) ≤ pk
  · exact br_t e (W _ (if_pos e).symm)
  · exact br_f e (W _ (if_neg e).symm)
end
end
section
/-! the two loops of run -/
def dm_LX (post : Int32 → SX → Prop) (m : Nat) (en1 : Int32) (g : Nat) (u : SX) : Prop := match u with
  | (xB, xD, xn, xo, xc, xl, oc, xu, xa, pk, xr, xw, en, cn, cb, cv, kd, na, nb, se, fn, tg, tn, pF, pS, cT, cB, bo, wN, wF, wB, wV) => wX_run_18 post m en1 (nI g) xB xD xn xo xc xl oc xu xa pk xr xw en cn cb cv kd na nb se fn tg tn pF pS cT cB bo wN wF wB wV
def dm_LY (post : Int32 → SY → Prop) (m : Nat) (g : Nat) (v : SY) : Prop := match v with
  | (yB, yD, yn, yc, yo, yu, ya, yp, yr, yh, ye, ys, er, rt, kd, na, nb, vK, vA, vB, eN, eV, eX, fN, fS, fE, fV) => wY_run_63 post m (nI g) yB yD yn yc yo yu ya yp yr yh ye ys er rt kd na nb vK vA vB eN eV eX fN fS fE fV
def dm_G (K gX gY : Nat) (en1 : Int32) (u : SX) (v : SY) : Prop := ∃ (oc : Int32) (u' : SX) (v' : SY), (∀ k, i_Rel k u' v') ∧ (∀ post : Int32 → SX → Prop, post oc u' → ∀ m, K ≤ m → dm_LX post m en1 gX u) ∧ (∀ post : Int32 → SY → Prop, post oc v' → ∀ m, K ≤ m → dm_LY post m gY v)
theorem dm_G_s {K gX gY : Nat} {e1 e2 : Int32} {u u2 : SX} {v v2 : SY} (hX : ∀ post m, dm_LX post m e2 (gX + 1) u2 → dm_LX post (m + 1) e1 gX u) (hY : ∀ post m, dm_LY post m (gY + 1) v2 → dm_LY post (m + 1) gY v) (g : dm_G K (gX + 1) (gY + 1) e2 u2 v2) : dm_G (K + 1) gX gY e1 u v := by
  obtain ⟨oc, u', v', R, a, b⟩ := g
  refine ⟨oc, u', v', R, fun post h m hm => ?_, fun post h m hm => ?_⟩
  · obtain ⟨m, rfl⟩ : ∃ q, m = q + 1 := ⟨m - 1, by omega⟩
    exact hX post m (a post h m (by omega))
  · obtain ⟨m, rfl⟩ : ∃ q, m = q + 1 := ⟨m - 1, by omega⟩
    exact hY post m (b post h m (by omega))
theorem dm_G_y {K gX gY : Nat} {e1 : Int32} {u : SX} {v v2 : SY} (hY : ∀ post m, dm_LY post m (gY + 1) v2 → dm_LY post (m + 1) gY v) (g : dm_G K gX (gY + 1) e1 u v2) : dm_G (K + 1) gX gY e1 u v := by
  obtain ⟨oc, u', v', R, a, b⟩ := g
  refine ⟨oc, u', v', R, fun post h m hm => a post h m (by omega), fun post h m hm => ?_⟩
  obtain ⟨m, rfl⟩ : ∃ q, m = q + 1 := ⟨m - 1, by omega⟩
  exact hY post m (b post h m (by omega))
theorem dm_G_e {K gX gY : Nat} {e1 code : Int32} {u u2 : SX} {v v2 : SY} (hK : 1 ≤ K) (R : ∀ k, i_Rel k u2 v2) (hX : ∀ post : Int32 → SX → Prop, ∀ m, post code u2 → dm_LX post (m + 1 + 1) e1 gX u) (hY : ∀ post : Int32 → SY → Prop, ∀ m, post code v2 → dm_LY post (m + 1 + 1) gY v) : dm_G (K + 1) gX gY e1 u v := by
  refine ⟨code, u2, v2, R, fun post h m hm => ?_, fun post h m hm => ?_⟩
  · obtain ⟨m, rfl⟩ : ∃ q, m = q + 1 + 1 := ⟨m - 2, by omega⟩
    exact hX post m h
  · obtain ⟨m, rfl⟩ : ∃ q, m = q + 1 + 1 := ⟨m - 2, by omega⟩
    exact hY post m h
def dm_en (w : Nat) : Int32 := if w = 0 then 1 else 0
section
variable {xB xD xn xo xc xl oc xu xa pk xw en cn cb : Int32} {xr cv : Int64} {kd na nb se fn tg tn cT cB wN wF wB : Nat → Int32} {pF pS bo wV : Nat → Int64} {g m w : Nat} {post : Int32 → SX → Prop}
theorem x_lE (hg : g < 1000000) (h : wpX_enterNode (fun r u => match u with | (xB, xD, xn, xo, xc, xl, oc, xu, xa, pk, xr, xw, en, cn, cb, cv, kd, na, nb, se, fn, tg, tn, pF, pS, cT, cB, bo, wN, wF, wB, wV) => wX_run_47 post (wX_run_18 post m) (nI g) r xB xD xn xo xc xl oc xu xa pk xr xw en cn cb cv kd na nb se fn tg tn pF pS cT cB bo wN wF wB wV) (xB, xD, xn, xo, xc, xl, oc, xu, xa, pk, xr, xw, 1, cn, cb, cv, kd, na, nb, se, fn, tg, tn, pF, pS, cT, cB, bo, wN, wF, wB, wV)) : dm_LX post (m + 1) 0 g (xB, xD, xn, xo, xc, xl, oc, xu, xa, pk, xr, xw, 1, cn, cb, cv, kd, na, nb, se, fn, tg, tn, pF, pS, cT, cB, bo, wN, wF, wB, wV) :=
  br_f (nI_ge (b := 1000000) hg (by omega)) (br_t rfl (br_f (by decide) h))
theorem x_lF (hg : g < 1000000) (h : wpX_resumeNode (fun r u => match u with | (xB, xD, xn, xo, xc, xl, oc, xu, xa, pk, xr, xw, en, cn, cb, cv, kd, na, nb, se, fn, tg, tn, pF, pS, cT, cB, bo, wN, wF, wB, wV) => wX_run_47 post (wX_run_18 post m) (nI g) r xB xD xn xo xc xl oc xu xa pk xr xw en cn cb cv kd na nb se fn tg tn pF pS cT cB bo wN wF wB wV) (xB, xD, xn, xo, xc, xl, oc, xu, xa, pk, xr, nI (w + 1), 0, cn, cb, cv, kd, na, nb, se, fn, tg, tn, pF, pS, cT, cB, bo, wN, wF, wB, wV)) : dm_LX post (m + 1) (dm_en (w + 1)) g (xB, xD, xn, xo, xc, xl, oc, xu, xa, pk, xr, nI (w + 1), 0, cn, cb, cv, kd, na, nb, se, fn, tg, tn, pF, pS, cT, cB, bo, wN, wF, wB, wV) :=
  br_f (nI_ge (b := 1000000) hg (by omega)) (br_t rfl (br_t rfl h))
theorem x_7E (h : dm_LX post m 0 (g + 1) (xB, xD, xn, xo, xc, xl, 0, xu, xa, pk, xr, xw, 1, cn, cb, cv, kd, na, nb, se, fn, tg, tn, pF, pS, cT, cB, bo, wN, wF, wB, wV)) : wX_run_47 post (wX_run_18 post m) (nI g) 0 xB xD xn xo xc xl oc xu xa pk xr xw 1 cn cb cv kd na nb se fn tg tn pF pS cT cB bo wN wF wB wV :=
  br_t rfl (br_f (by decide) (nm_r (nI_1 g) h))
theorem x_7F (hw : w < 1000) (h : dm_LX post m (dm_en w) (g + 1) (xB, xD, xn, xo, xc, xl, 0, xu, xa, pk, xr, nI w, 0, cn, cb, cv, kd, na, nb, se, fn, tg, tn, pF, pS, cT, cB, bo, wN, wF, wB, wV)) : wX_run_47 post (wX_run_18 post m) (nI g) 0 xB xD xn xo xc xl oc xu xa pk xr (nI w) 0 cn cb cv kd na nb se fn tg tn pF pS cT cB bo wN wF wB wV := by
  refine br_t rfl (br_t rfl ?_)
  cases w with
  | zero => exact br_t rfl (nm_r (nI_1 g) h)
  | succ w => exact br_f (nI_ne0 (by omega) (by omega)) (nm_r (nI_1 g) h)
theorem x_7e {z : Int32} (hz : ¬ z = 0) (h : post z (xB, xD, xn, xo, xc, xl, z, xu, xa, pk, xr, xw, en, cn, cb, cv, kd, na, nb, se, fn, tg, tn, pF, pS, cT, cB, bo, wN, wF, wB, wV)) : wX_run_47 post (wX_run_18 post (m + 1)) (nI g) z xB xD xn xo xc xl oc xu xa pk xr xw en cn cb cv kd na nb se fn tg tn pF pS cT cB bo wN wF wB wV := by
  refine br_f hz (nm_r (nI_1 g) ?_)
  by_cases c : 1000000 ≤ nI (g + 1)
  · exact br_t c (br_f hz h)
  · exact br_f c (br_f (by decide) (br_f hz h))
theorem x_end (h : post 0 (xB, xD, xn, xo, xc, xl, 0, xu, xa, pk, cv, xw, en, cn, cb, cv, kd, na, nb, se, fn, tg, tn, pF, pS, cT, cB, bo, wN, wF, wB, wV)) : dm_LX post (m + 1) 1 g (xB, xD, xn, xo, xc, xl, 0, xu, xa, pk, xr, xw, en, cn, cb, cv, kd, na, nb, se, fn, tg, tn, pF, pS, cT, cB, bo, wN, wF, wB, wV) := by
  by_cases c : 1000000 ≤ nI g
  · exact br_t c (br_t rfl h)
  · exact br_f c (br_f (by decide) (br_t rfl h))
end
section
variable {yB yD yn yc yo yu ya yp yr yh ye ys er rt : Int32} {kd na nb vK vA vB eN eV eX fN fS fE fV : Nat → Int32} {g m j : Nat} {post : Int32 → SY → Prop}
theorem y_l (hg : g < 100000) (hj : j < 1000) (h : wpY_step (fun u => match u with | (yB, yD, yn, yc, yo, yu, ya, yp, yr, yh, ye, ys, er, rt, kd, na, nb, vK, vA, vB, eN, eV, eX, fN, fS, fE, fV) => ∀ x1 : Int32, x1 = nI g + 1 → wY_run_63 post m x1 yB yD yn yc yo yu ya yp yr yh ye ys er rt kd na nb vK vA vB eN eV eX fN fS fE fV) (yB, yD, yn, yc, yo, yu, ya, yp, yr, yh, ye, nI (j + 1), 0, rt, kd, na, nb, vK, vA, vB, eN, eV, eX, fN, fS, fE, fV)) : dm_LY post (m + 1) g (yB, yD, yn, yc, yo, yu, ya, yp, yr, yh, ye, nI (j + 1), 0, rt, kd, na, nb, vK, vA, vB, eN, eV, eX, fN, fS, fE, fV) :=
  br_f (nI_ge (b := 100000) hg (by omega)) (br_f (nI_nle (by omega) (by omega)) (br_t rfl h))
theorem y_7 (h : dm_LY post m (g + 1) (yB, yD, yn, yc, yo, yu, ya, yp, yr, yh, ye, ys, er, rt, kd, na, nb, vK, vA, vB, eN, eV, eX, fN, fS, fE, fV)) : ∀ x1 : Int32, x1 = nI g + 1 → wY_run_63 post m x1 yB yD yn yc yo yu ya yp yr yh ye ys er rt kd na nb vK vA vB eN eV eX fN fS fE fV := nm_r (nI_1 g) h
theorem y_7e {z : Int32} (hz : ¬ z = 0) (h : post z (yB, yD, yn, yc, z, yu, ya, yp, yr, yh, ye, ys, z, rt, kd, na, nb, vK, vA, vB, eN, eV, eX, fN, fS, fE, fV)) : ∀ x1 : Int32, x1 = nI g + 1 → wY_run_63 post (m + 1) x1 yB yD yn yc yo yu ya yp yr yh ye ys z rt kd na nb vK vA vB eN eV eX fN fS fE fV := by
  refine nm_e ?_
  have W : wY_run_93 post yB yD yn yc yo yu ya yp yr yh ye ys z rt kd na nb vK vA vB eN eV eX fN fS fE fV := br_f hz h
  by_cases c : 100000 ≤ nI g + 1
  · exact br_t c W
  · refine br_f c ?_
    by_cases d : ys ≤ 0
    · exact br_t d W
    · exact br_f d (br_f hz W)
theorem y_end (h : post 0 (yB, yD, yn, yc, 0, yu, ya, yp, rt, yh, ye, nI 0, 0, rt, kd, na, nb, vK, vA, vB, eN, eV, eX, fN, fS, fE, fV)) : dm_LY post (m + 1) g (yB, yD, yn, yc, yo, yu, ya, yp, yr, yh, ye, nI 0, 0, rt, kd, na, nb, vK, vA, vB, eN, eV, eX, fN, fS, fE, fV) := by
  have W : wY_run_93 post yB yD yn yc yo yu ya yp yr yh ye (nI 0) 0 rt kd na nb vK vA vB eN eV eX fN fS fE fV := br_t rfl h
  by_cases c : 100000 ≤ nI g
  · exact br_t c W
  · exact br_f c (br_t (nI_le (b := 0) (Nat.le_refl _) (by omega)) W)
end
end
section
/-! the runs side by side -/
def dm_Fx (kd na nb se fn tg tn : Nat → Int32) (n B D : Nat) : Prop := dm_Pg kd na nb n ∧ dm_Cp kd na nb se fn tg tn n ∧ 1 ≤ B ∧ B ≤ 64 ∧ 1 ≤ D ∧ D ≤ 8
def dm_SE (kd na nb se fn tg tn : Nat → Int32) (n B D K : Nat) : Prop := ∀ (m : Nat → Int64) (L : Nat → Nat → Nat) (p e : Nat) {oc : Int32} {pk yo rt : Int32} {cv : Int64} {pF pS : Nat → Int64} {cT cB : Nat → Int32} {bo : Nat → Int64} {wN wF wB : Nat → Int32} {wV : Nat → Int64} {vK vA vB eN eV eX fN fS fE fV : Nat → Int32} {hp ep un a w j gX gY : Nat} {i s : Nat},
  dm_Wd kd na nb fn n B hp ep un m L bo vK vA vB pF pS cT cB eN eV eX → dm_St kd fn n hp ep un m L bo fN fS fE fV wN wF wB wV j w a p → i < n → fN j = nI i → fS j = 0 → fE j = dm_eI e → e ≤ ep → s ≤ un → dm_EO hp m (L e) (fun x => bo (s * 8 + x)) (fun x => bt (fn i) x = true) → j ≤ 32 * a + i → a ≤ D →
  p + 8 * (dm_E kd i - i) + 256 * (B - un) + 5 * hp < K → gX + K ≤ 16700 → gY + K ≤ 16700 → dm_G K gX gY 0 (nI B, nI D, nI n, nI (dm_O kd n), 1, nI (dm_cnt kd n), oc, nI un, nI a, pk, 0, nI w, 1, nI i, nI s, cv, kd, na, nb, se, fn, tg, tn, pF, pS, cT, cB, bo, wN, wF, wB, wV) (nI B, nI D, nI n, 1, yo, nI un, nI a, pk, -1, nI hp, nI ep, nI (j + 1), 0, rt, kd, na, nb, vK, vA, vB, eN, eV, eX, fN, fS, fE, fV)
def dm_SF (kd na nb se fn tg tn : Nat → Int32) (n B D K : Nat) : Prop := ∀ (m : Nat → Int64) (L : Nat → Nat → Nat) (p c : Nat) {pk cn cb yo : Int32} {cv : Int64} {pF pS : Nat → Int64} {cT cB : Nat → Int32} {bo : Nat → Int64} {wN wF wB : Nat → Int32} {wV : Nat → Int64} {vK vA vB eN eV eX fN fS fE fV : Nat → Int32} {hp ep un a w j gX gY : Nat},
  dm_Wd kd na nb fn n B hp ep un m L bo vK vA vB pF pS cT cB eN eV eX → dm_St kd fn n hp ep un m L bo fN fS fE fV wN wF wB wV j w a p → c < hp → cv = m c → a ≤ D →
  p + 256 * (B - un) + 5 * hp < K → gX + K ≤ 16700 → gY + K ≤ 16700 → dm_G K gX gY (dm_en w) (nI B, nI D, nI n, nI (dm_O kd n), 1, nI (dm_cnt kd n), 0, nI un, nI a, pk, 0, nI w, 0, cn, cb, cv, kd, na, nb, se, fn, tg, tn, pF, pS, cT, cB, bo, wN, wF, wB, wV) (nI B, nI D, nI n, 1, yo, nI un, nI a, pk, -1, nI hp, nI ep, nI j, 0, nI c, kd, na, nb, vK, vA, vB, eN, eV, eX, fN, fS, fE, fV)
section
variable {kd na nb f : Nat → Int32} {n hp ep un c : Nat} {m bo : Nat → Int64} {L : Nat → Nat → Nat} {vK vA vB : Nat → Int32} {pF pS : Nat → Int64} {cT cB : Nat → Int32}
theorem dm_HC_k (h : dm_HC kd na nb f n hp ep un m L bo vK vA vB pF pS cT cB c) : dm_kof (m c) = vK c := by
  rcases h with ⟨h1, h2⟩ | ⟨h1, p, a, b, h2, h3, h4, h5, h6, h7⟩ | ⟨h1, p, l, e, s, h2, h3, h4, h5, h6, h7, h8, h9⟩
  · rw [h1, h2, dm_val_k]
  · rw [h1, h6, dm_val_k]
  · rw [h1, h8, dm_val_k]
theorem dm_HC_i (h : dm_HC kd na nb f n hp ep un m L bo vK vA vB pF pS cT cB c) (hk : vK c = 1) : (m c).toInt32 = vA c := by
  rcases h with ⟨h1, h2⟩ | ⟨h1, h2⟩ | ⟨h1, h2⟩
  · rw [h2, dm_val_d]
  · rw [hk] at h1
    exact absurd h1 (by decide)
  · rw [hk] at h1
    exact absurd h1 (by decide)
theorem dm_HC_p (h : dm_HC kd na nb f n hp ep un m L bo vK vA vB pF pS cT cB c) (hk : vK c = 2) : ∃ p a b, 1 ≤ p ∧ p ≤ un ∧ a < c ∧ b < c ∧ (m c).toInt32 = nI p ∧ vA c = nI a ∧ vB c = nI b ∧ pF p = m a ∧ pS p = m b := by
  rcases h with ⟨h1, h2⟩ | ⟨h1, p, a, b, h2, h3, h4, h5, h6, h7⟩ | ⟨h1, h2⟩
  · rw [hk] at h1
    exact absurd h1 (by decide)
  · exact ⟨p, a, b, h2, h3, h4, h5, by rw [h6, dm_val_d], h7⟩
  · rw [hk] at h1
    exact absurd h1 (by decide)
theorem dm_HC_f (h : dm_HC kd na nb f n hp ep un m L bo vK vA vB pF pS cT cB c) (hk : vK c = 3) : ∃ p l e s, 1 ≤ p ∧ p ≤ un ∧ l < n ∧ (kd l = 13 ∨ kd l = 15) ∧ e ≤ ep ∧ s ≤ un ∧ (m c).toInt32 = nI p ∧ vA c = nI l ∧ vB c = dm_eI e ∧ cT p = nI (dm_cnt kd l) ∧ cB p = nI s ∧ dm_EO hp m (L e) (fun x => bo (s * 8 + x)) (dm_LW kd na nb f l) := by
  rcases h with ⟨h1, h2⟩ | ⟨h1, h2⟩ | ⟨h1, p, l, e, s, h2, h3, h4, h5, h6, h7, h8, h9⟩
  · rw [hk] at h1
    exact absurd h1 (by decide)
  · rw [hk] at h1
    exact absurd h1 (by decide)
  · exact ⟨p, l, e, s, h2, h3, h4, h5, h6, h7, by rw [h8, dm_val_d], h9⟩
theorem dm_HC_R (hu : un ≤ 64) (h : dm_HC kd na nb f n hp ep un m L bo vK vA vB pF pS cT cB c) : dm_RC kd n m vK vA vB pF pS cT c := by
  rcases h with h | ⟨h1, p, a, b, h2, h3, h4⟩ | ⟨h1, p, l, e, s, h2, h3, h4, h5, h6, h7, h8, h9, h10, h11, h12⟩
  · exact Or.inl h
  · exact Or.inr (Or.inl ⟨h1, p, a, b, by omega, h4⟩)
  · exact Or.inr (Or.inr ⟨h1, p, l, by omega, h4, h8, h9, h11⟩)
theorem dm_nb0 {i : Nat} {x : Int32} (kF : dm_kF (kd i)) : ¬ dm_bd kd na nb i 0 x := by
  obtain ⟨n1, n2, n13, n15⟩ := dm_kF_n kF
  rintro (⟨g, _⟩ | ⟨_, g, _⟩ | ⟨g, _⟩)
  · exact n13 g
  · omega
  · exact n15 g
theorem dm_nb1 {i x y : Nat} (qA : na i = nI y) (hx : x < 8) (hy : y < 8) (e : x ≠ y) : ¬ dm_bd kd na nb i 1 (nI x) := by
  have e2 : ¬ na i = nI x := by
    rw [qA]
    exact fun g => e ((nI_eq (by omega) (by omega)).mp g).symm
  rintro (⟨_, g, _⟩ | ⟨_, _, g⟩ | ⟨_, ⟨g, _⟩ | ⟨_, g⟩⟩)
  · omega
  · exact e2 g
  · omega
  · exact e2 g
theorem dm_nbf {l x y : Nat} (k13 : ¬ kd l = 15) (qA : na l = nI y) (hx : x < 8) (hy : y < 8) (e : x ≠ y) : ¬ dm_bd kd na nb l 0 (nI x) := by
  have e2 : ¬ na l = nI x := by
    rw [qA]
    exact fun g => e ((nI_eq (by omega) (by omega)).mp g).symm
  rintro (⟨_, _, g⟩ | ⟨_, g, _⟩ | ⟨g, _⟩)
  · exact e2 g
  · omega
  · exact k13 g
theorem dm_nbr {l x y z : Nat} (k15 : kd l = 15) (qA : na l = nI y) (qB : nb l = nI z) (hx : x < 8) (hy : y < 8) (hz : z < 8) (e : x ≠ y) (e' : x ≠ z) : ¬ dm_bd kd na nb l 0 (nI x) := by
  rw [dm_bd, k15, qA, qB]
  rintro (⟨g, _⟩ | ⟨g, _⟩ | ⟨_, ⟨_, g | g⟩ | ⟨g, _⟩⟩)
  · exact absurd g (by decide)
  · exact absurd g (by decide)
  · exact e ((nI_eq (by omega) (by omega)).mp g).symm
  · exact e' ((nI_eq (by omega) (by omega)).mp g).symm
  · omega
theorem dm_kF_ar {k : Int32} (h : dm_kF k) : 1 ≤ dm_ar k := by
  rcases h with rfl | rfl | rfl | rfl | rfl | rfl | rfl | rfl | rfl | rfl | rfl | rfl <;> decide
theorem dm_kS_ar {k : Int32} (h : dm_kS k) : dm_ar k = 2 := by
  rcases h with rfl | rfl | rfl | rfl | rfl | rfl | rfl | rfl <;> decide
end
section
variable {kd na nb se fn tg tn : Nat → Int32} {n B D K : Nat} {m : Nat → Int64} {L : Nat → Nat → Nat} {p e c : Nat} {oc : Int32} {pk cn cb yo rt : Int32} {cv : Int64} {pF pS : Nat → Int64} {cT cB : Nat → Int32} {bo : Nat → Int64} {wN wF wB : Nat → Int32} {wV : Nat → Int64} {vK vA vB eN eV eX fN fS fE fV : Nat → Int32} {hp ep un a w j gX gY : Nat} {i s : Nat}
theorem sE_num (X0 : dm_Fx kd na nb se fn tg tn n B D) (W : dm_Wd kd na nb fn n B hp ep un m L bo vK vA vB pF pS cT cB eN eV eX) (St : dm_St kd fn n hp ep un m L bo fN fS fE fV wN wF wB wV j w a p) (hi : i < n) (qN : fN j = nI i) (qS : fS j = 0) (qE : fE j = dm_eI e) (he : e ≤ ep) (hs : s ≤ un) (EO : dm_EO hp m (L e) (fun x => bo (s * 8 + x)) (fun x => bt (fn i) x = true)) (hpos : j ≤ 32 * a + i) (ha : a ≤ D) (hpot : p + 8 * (dm_E kd i - i) + 256 * (B - un) + 5 * hp < K + 1) (gx : gX + (K + 1) ≤ 16700) (gy : gY + (K + 1) ≤ 16700) (hF : dm_SF kd na nb se fn tg tn n B D K) (qK : kd i = 1) : dm_G (K + 1) gX gY 0 (nI B, nI D, nI n, nI (dm_O kd n), 1, nI (dm_cnt kd n), oc, nI un, nI a, pk, 0, nI w, 1, nI i, nI s, cv, kd, na, nb, se, fn, tg, tn, pF, pS, cT, cB, bo, wN, wF, wB, wV) (nI B, nI D, nI n, 1, yo, nI un, nI a, pk, -1, nI hp, nI ep, nI (j + 1), 0, rt, kd, na, nb, vK, vA, vB, eN, eV, eX, fN, fS, fE, fV) := by
  obtain ⟨P, C, b1, b2, d1, d2⟩ := X0
  have T : dm_Tr kd n := ⟨P.2.1, C.1⟩
  have hn := P.1
  have hE1 := dm_E_gt T hi
  have hE2 := dm_E_le T hi
  have hwj := dm_St_le _ _ _ _ St
  have hep := W.2.2.1
  have hun := W.2.2.2
  have hh : hp < 4096 := by omega
  have hj : j < 300 := by omega
  obtain ⟨X, W2⟩ := dm_Wd_int W (na i) 0
  have St2 := dm_St_x X j w a p (fun _ _ => ⟨rfl, rfl, rfl, rfl⟩) (fun _ _ => ⟨rfl, rfl, rfl, rfl⟩) St
  refine dm_G_s (fun post m h => x_lE (by omega) (x_e_num (by omega) qK (x_7F (by omega) h))) (fun post m h => y_l (by omega) (by omega) (y_s_num (by omega) (by omega) qN qS qE qK hh (y_7 h))) ?_
  exact hF _ L p hp W2 St2 (by omega) pk_uLs.symm ha (by omega) (by omega) (by omega)
theorem sE_var (X0 : dm_Fx kd na nb se fn tg tn n B D) (W : dm_Wd kd na nb fn n B hp ep un m L bo vK vA vB pF pS cT cB eN eV eX) (St : dm_St kd fn n hp ep un m L bo fN fS fE fV wN wF wB wV j w a p) (hi : i < n) (qN : fN j = nI i) (qS : fS j = 0) (qE : fE j = dm_eI e) (he : e ≤ ep) (hs : s ≤ un) (EO : dm_EO hp m (L e) (fun x => bo (s * 8 + x)) (fun x => bt (fn i) x = true)) (hpos : j ≤ 32 * a + i) (ha : a ≤ D) (hpot : p + 8 * (dm_E kd i - i) + 256 * (B - un) + 5 * hp < K + 1) (gx : gX + (K + 1) ≤ 16700) (gy : gY + (K + 1) ≤ 16700) (hF : dm_SF kd na nb se fn tg tn n B D K) (qK : kd i = 2) : dm_G (K + 1) gX gY 0 (nI B, nI D, nI n, nI (dm_O kd n), 1, nI (dm_cnt kd n), oc, nI un, nI a, pk, 0, nI w, 1, nI i, nI s, cv, kd, na, nb, se, fn, tg, tn, pF, pS, cT, cB, bo, wN, wF, wB, wV) (nI B, nI D, nI n, 1, yo, nI un, nI a, pk, -1, nI hp, nI ep, nI (j + 1), 0, rt, kd, na, nb, vK, vA, vB, eN, eV, eX, fN, fS, fE, fV) := by
  obtain ⟨P, C, b1, b2, d1, d2⟩ := X0
  have T : dm_Tr kd n := ⟨P.2.1, C.1⟩
  have hn := P.1
  have hE1 := dm_E_gt T hi
  have hE2 := dm_E_le T hi
  have hwj := dm_St_le _ _ _ _ St
  have hep := W.2.2.1
  have hun := W.2.2.2
  have hh : hp < 4096 := by omega
  have hj : j < 300 := by omega
  obtain ⟨y, hy, ey⟩ := (P.2.2 i hi).2.1 (Or.inl qK)
  obtain ⟨c, hc, hL, hb⟩ := EO y hy ((C.2.2.1 i hi y (by omega)).mpr (Or.inl ⟨qK, ey⟩))
  refine dm_G_s (fun post m h => x_lE (by omega) (x_e_var (by omega) qK ey hy (by omega) (x_7F (by omega) h))) (fun post m h => y_l (by omega) (by omega) (y_s_var (by omega) (by omega) qN qS qE qK ey W.2.1 (by omega) hy he hL (y_7 h))) ?_
  exact hF m L p c W St hc hb ha (by omega) (by omega) (by omega)
theorem sE_fun (X0 : dm_Fx kd na nb se fn tg tn n B D) (W : dm_Wd kd na nb fn n B hp ep un m L bo vK vA vB pF pS cT cB eN eV eX) (St : dm_St kd fn n hp ep un m L bo fN fS fE fV wN wF wB wV j w a p) (hi : i < n) (qN : fN j = nI i) (qS : fS j = 0) (qE : fE j = dm_eI e) (he : e ≤ ep) (hs : s ≤ un) (EO : dm_EO hp m (L e) (fun x => bo (s * 8 + x)) (fun x => bt (fn i) x = true)) (hpos : j ≤ 32 * a + i) (ha : a ≤ D) (hpot : p + 8 * (dm_E kd i - i) + 256 * (B - un) + 5 * hp < K + 1) (gx : gX + (K + 1) ≤ 16700) (gy : gY + (K + 1) ≤ 16700) (hF : dm_SF kd na nb se fn tg tn n B D K) (qK : kd i = 13) : dm_G (K + 1) gX gY 0 (nI B, nI D, nI n, nI (dm_O kd n), 1, nI (dm_cnt kd n), oc, nI un, nI a, pk, 0, nI w, 1, nI i, nI s, cv, kd, na, nb, se, fn, tg, tn, pF, pS, cT, cB, bo, wN, wF, wB, wV) (nI B, nI D, nI n, 1, yo, nI un, nI a, pk, -1, nI hp, nI ep, nI (j + 1), 0, rt, kd, na, nb, vK, vA, vB, eN, eV, eX, fN, fS, fE, fV) := by
  obtain ⟨P, C, b1, b2, d1, d2⟩ := X0
  have T : dm_Tr kd n := ⟨P.2.1, C.1⟩
  have hn := P.1
  have hE1 := dm_E_gt T hi
  have hE2 := dm_E_le T hi
  have hwj := dm_St_le _ _ _ _ St
  have hep := W.2.2.1
  have hun := W.2.2.2
  have hh : hp < 4096 := by omega
  have hj : j < 300 := by omega
  by_cases hu : un < B
  · have EOl : dm_EO hp m (L e) (fun x => bo (s * 8 + x)) (dm_LW kd na nb fn i) := dm_EO_w EO (fun x hx hw => (C.2.2.1 i hi x (by omega)).mpr (Or.inr ⟨0, by rw [qK]; decide, hw.1, hw.2⟩))
    obtain ⟨X, W2⟩ := dm_Wd_fun (l := i) (bo' := bo) W hu hi (Or.inl qK) he hs (fun _ _ => rfl) EOl
    have et := (C.2.2.2.2 i hi (Or.inl qK)).1
    rw [← et] at W2
    have St2 := dm_St_x X j w a p (fun _ _ => ⟨rfl, rfl, rfl, rfl⟩) (fun _ _ => ⟨rfl, rfl, rfl, rfl⟩) St
    refine dm_G_s (fun post m h => x_lE (by omega) (x_e_fun (by omega) qK hu b2 (x_7F (by omega) h))) (fun post m h => y_l (by omega) (by omega) (y_s_fun (by omega) (by omega) qN qS qE qK hh hu b2 (y_7 h))) ?_
    exact hF _ L p hp W2 St2 (by omega) pk_uLs.symm ha (by omega) (by omega) (by omega)
  · have eu : un = B := by omega
    subst eu
    refine dm_G_e (by omega) (fun k => ?_) (fun post m h => x_lE (by omega) (x_e_fun12 (by omega) qK (x_7e (by decide) h))) (fun post m h => y_l (by omega) (by omega) (y_s_fun12 (by omega) (by omega) qN qS qE qK (y_7e (by decide) h)))
    exact ⟨_, D, n, rfl, rfl, rfl, rfl, rfl, rfl, rfl, rfl, rfl, rfl, rfl, rfl, rfl, rfl, b1, b2, d1, d2, P, Or.inr ⟨rfl, rfl, C, Or.inl ⟨rfl, rfl⟩⟩⟩
theorem sE_rec (X0 : dm_Fx kd na nb se fn tg tn n B D) (W : dm_Wd kd na nb fn n B hp ep un m L bo vK vA vB pF pS cT cB eN eV eX) (St : dm_St kd fn n hp ep un m L bo fN fS fE fV wN wF wB wV j w a p) (hi : i < n) (qN : fN j = nI i) (qS : fS j = 0) (qE : fE j = dm_eI e) (he : e ≤ ep) (hs : s ≤ un) (EO : dm_EO hp m (L e) (fun x => bo (s * 8 + x)) (fun x => bt (fn i) x = true)) (hpos : j ≤ 32 * a + i) (ha : a ≤ D) (hpot : p + 8 * (dm_E kd i - i) + 256 * (B - un) + 5 * hp < K + 1) (gx : gX + (K + 1) ≤ 16700) (gy : gY + (K + 1) ≤ 16700) (hE : dm_SE kd na nb se fn tg tn n B D K) (qK : kd i = 15) : dm_G (K + 1) gX gY 0 (nI B, nI D, nI n, nI (dm_O kd n), 1, nI (dm_cnt kd n), oc, nI un, nI a, pk, 0, nI w, 1, nI i, nI s, cv, kd, na, nb, se, fn, tg, tn, pF, pS, cT, cB, bo, wN, wF, wB, wV) (nI B, nI D, nI n, 1, yo, nI un, nI a, pk, -1, nI hp, nI ep, nI (j + 1), 0, rt, kd, na, nb, vK, vA, vB, eN, eV, eX, fN, fS, fE, fV) := by
  obtain ⟨P, C, b1, b2, d1, d2⟩ := X0
  have T : dm_Tr kd n := ⟨P.2.1, C.1⟩
  have hn := P.1
  have hE1 := dm_E_gt T hi
  have hE2 := dm_E_le T hi
  have hwj := dm_St_le _ _ _ _ St
  have hep := W.2.2.1
  have hun := W.2.2.2
  have hh : hp < 4096 := by omega
  have hj : j < 300 := by omega
  obtain ⟨y, hy, ey⟩ := (P.2.2 i hi).2.1 (Or.inr (Or.inr (Or.inr qK)))
  have ar2 : dm_ar (kd i) = 2 := by
    rw [qK]
    decide
  have h0 := dm_ch_lt T hi (c := 0) (by omega)
  have h1 := dm_ch_lt T hi (c := 1) (by omega)
  have h1g := dm_ch_gt T hi (c := 1) (by omega)
  have h1E := dm_ch_in T hi (c := 1) (by omega)
  rw [dm_ch0] at h0
  by_cases hu : un < B
  · have EOl : dm_EO hp m (L e) (fun x => bo (s * 8 + x)) (dm_LW kd na nb fn i) := dm_EO_w EO (fun x hx hw => (C.2.2.1 i hi x (by omega)).mpr (Or.inr ⟨0, by omega, hw.1, hw.2⟩))
    obtain ⟨X, W2⟩ := dm_Wd_fun (l := i) (bo' := vp_updL (dm_cp bo s (un + 1) 8) ((un + 1) * 8 + y) (dm_val 3 (nI (un + 1)))) W hu hi (Or.inr qK) he hs (fun k hk => by rw [dm_b1_lo hk, dm_cp_lo hk]) EOl
    have et := (C.2.2.2.2 i hi (Or.inr qK)).1
    rw [← et] at W2
    obtain ⟨X2, W3⟩ := dm_Wd_env (c := hp) W2 hy (by omega) he (by omega)
    have X3 := dm_Ex_t X X2
    have St2 := dm_St_x (fN' := upd fN (j + 1) (nI (dm_ch kd i 1))) (fS' := upd (upd fS j 1) (j + 1) 0) (fE' := upd fE (j + 1) (nI ep)) (fV' := upd fV (j + 1) (-1)) X3 j w a p (fun q hq => ⟨pk_un (by omega), by rw [pk_un (by omega), pk_un (by omega)], pk_un (by omega), pk_un (by omega)⟩) (fun _ _ => ⟨rfl, rfl, rfl, rfl⟩) St
    refine dm_G_s (fun post m h => x_lE (by omega) (x_e_rec hn h0 qK ey hy hs (C.2.1 _ h0) hu b2 (x_7E h))) (fun post m h => y_l (by omega) (by omega) (y_s_rec (by omega) (by omega) qN qS qE qK (by omega) ey P T hi hh (by omega) hu b2 (y_7 h))) ?_
    refine hE _ _ (p + 1) (ep + 1) W3 ⟨i, hi, by rw [pk_un (by omega), qN], Or.inl ⟨p, Or.inr (Or.inr ⟨qK, by rw [pk_un (by omega), pk_us]⟩), hpos, rfl, St2⟩⟩ h1 pk_us pk_us (by rw [pk_us, dm_eIs]) (Nat.le_refl _) (Nat.le_refl _) ?_ (by omega) ha (by omega) (by omega) (by omega)
    refine dm_EO_b (y := y) (c0 := hp) (Le := L e) (bs := fun x => bo (s * 8 + x)) ?_ (by omega) (fun x hx => dm_Ls_n) (fun x hx => ?_)
    · refine dm_EO_x (dm_EO_w EO (fun x hx hw => ?_)) (Nat.le_succ hp) (fun c hc => pk_uLn (by omega)) (fun _ _ => rfl) (fun _ _ => rfl)
      exact (C.2.2.1 i hi x (by omega)).mpr (Or.inr ⟨1, by omega, hw.1, dm_nb1 ey hx hy hw.2⟩)
    · rw [dm_b1_in, pk_uLs, dm_cp_in hx]
  · have eu : un = B := by omega
    subst eu
    refine dm_G_e (by omega) (fun k => ?_) (fun post m h => x_lE (by omega) (x_e_rec12 (by omega) qK (x_7e (by decide) h))) (fun post m h => y_l (by omega) (by omega) (y_s_rec12 (by omega) (by omega) qN qS qE qK (y_7e (by decide) h)))
    exact ⟨_, D, n, rfl, rfl, rfl, rfl, rfl, rfl, rfl, rfl, rfl, rfl, rfl, rfl, rfl, rfl, b1, b2, d1, d2, P, Or.inr ⟨rfl, rfl, C, Or.inl ⟨rfl, rfl⟩⟩⟩
theorem sE_oth (X0 : dm_Fx kd na nb se fn tg tn n B D) (W : dm_Wd kd na nb fn n B hp ep un m L bo vK vA vB pF pS cT cB eN eV eX) (St : dm_St kd fn n hp ep un m L bo fN fS fE fV wN wF wB wV j w a p) (hi : i < n) (qN : fN j = nI i) (qS : fS j = 0) (qE : fE j = dm_eI e) (he : e ≤ ep) (hs : s ≤ un) (EO : dm_EO hp m (L e) (fun x => bo (s * 8 + x)) (fun x => bt (fn i) x = true)) (hpos : j ≤ 32 * a + i) (ha : a ≤ D) (hpot : p + 8 * (dm_E kd i - i) + 256 * (B - un) + 5 * hp < K + 1) (gx : gX + (K + 1) ≤ 16700) (gy : gY + (K + 1) ≤ 16700) (hE : dm_SE kd na nb se fn tg tn n B D K) (kF : dm_kF (kd i)) : dm_G (K + 1) gX gY 0 (nI B, nI D, nI n, nI (dm_O kd n), 1, nI (dm_cnt kd n), oc, nI un, nI a, pk, 0, nI w, 1, nI i, nI s, cv, kd, na, nb, se, fn, tg, tn, pF, pS, cT, cB, bo, wN, wF, wB, wV) (nI B, nI D, nI n, 1, yo, nI un, nI a, pk, -1, nI hp, nI ep, nI (j + 1), 0, rt, kd, na, nb, vK, vA, vB, eN, eV, eX, fN, fS, fE, fV) := by
  obtain ⟨P, C, b1, b2, d1, d2⟩ := X0
  have T : dm_Tr kd n := ⟨P.2.1, C.1⟩
  have hn := P.1
  have hE1 := dm_E_gt T hi
  have hE2 := dm_E_le T hi
  have hwj := dm_St_le _ _ _ _ St
  have hep := W.2.2.1
  have hun := W.2.2.2
  have hh : hp < 4096 := by omega
  have hj : j < 300 := by omega
  have ar1 := dm_kF_ar kF
  have h0 := dm_ch_lt T hi (c := 0) (by omega)
  have h0E := dm_ch_in T hi (c := 0) (by omega)
  rw [dm_ch0] at h0 h0E
  have h0g := dm_E_gt T h0
  have St2 := dm_St_x (fN' := upd fN (j + 1) (nI (i + 1))) (fS' := upd (upd fS j 1) (j + 1) 0) (fE' := upd fE (j + 1) (dm_eI e)) (fV' := upd fV (j + 1) (-1)) (wN' := upd wN w (nI i)) (wF' := upd wF w 0) (wB' := upd wB w (nI s)) (wV' := wV) (dm_Ex_r (hp := hp) (ep := ep) (un := un) (m := m) (bo := bo) (L := L)) j w a p (fun q hq => ⟨pk_un (by omega), by rw [pk_un (by omega), pk_un (by omega)], pk_un (by omega), pk_un (by omega)⟩) (fun q hq => ⟨pk_un (by omega), pk_un (by omega), pk_un (by omega), rfl⟩) St
  refine dm_G_s (fun post m h => x_lE (by omega) (x_e_oth (by omega) kF (by omega) (x_7E h))) (fun post m h => y_l (by omega) (by omega) (y_s_oth (by omega) (by omega) qN qS qE kF (by omega) (by omega) (y_7 h))) ?_
  refine hE m L (p + 7 + 8 * (dm_E kd i - dm_E kd (i + 1))) e W ⟨i, hi, by rw [pk_un (by omega), qN], Or.inr (Or.inr (Or.inl ⟨w, p, e, s, rfl, rfl, by rw [pk_un (by omega), pk_us], kF, pk_us, pk_us, by rw [pk_un (by omega), qE], pk_us, he, hs, EO, hpos, St2⟩))⟩ h0 pk_us pk_us pk_us he hs ?_ (by omega) ha (by omega) (by omega) (by omega)
  exact dm_EO_w EO (fun x hx hw => (C.2.2.1 i hi x (by omega)).mpr (Or.inr ⟨0, by omega, hw, dm_nb0 kF⟩))
end
end
section
/-! the runs side by side: a value is found -/
section
variable {kd na nb se fn tg tn : Nat → Int32} {n B D K : Nat} {m : Nat → Int64} {L : Nat → Nat → Nat} {p e c d : Nat} {pk cn cb yo rt : Int32} {cv : Int64} {pF pS : Nat → Int64} {cT cB : Nat → Int32} {bo : Nat → Int64} {wN wF wB : Nat → Int32} {wV : Nat → Int64} {vK vA vB eN eV eX fN fS fE fV : Nat → Int32} {hp ep un a w j gX gY : Nat} {i s : Nat}
theorem sF_T (X0 : dm_Fx kd na nb se fn tg tn n B D) (W : dm_Wd kd na nb fn n B hp ep un m L bo vK vA vB pF pS cT cB eN eV eX) (hi : i < n) (qN : fN j = nI i) (hc : c < hp) (qv : cv = m c) (ha : a ≤ D) (hpot : (p + 1) + 256 * (B - un) + 5 * hp < K + 1) (gx : gX + (K + 1) ≤ 16700) (gy : gY + (K + 1) ≤ 16700) (St : dm_St kd fn n hp ep un m L bo fN fS fE fV wN wF wB wV j w a p) (kT : dm_kT (kd i) (fS j)) (hpos : j ≤ 32 * a + i) (hF : dm_SF kd na nb se fn tg tn n B D K) : dm_G (K + 1) gX gY (dm_en w) (nI B, nI D, nI n, nI (dm_O kd n), 1, nI (dm_cnt kd n), 0, nI un, nI a, pk, 0, nI w, 0, cn, cb, cv, kd, na, nb, se, fn, tg, tn, pF, pS, cT, cB, bo, wN, wF, wB, wV) (nI B, nI D, nI n, 1, yo, nI un, nI a, pk, -1, nI hp, nI ep, nI (j + 1), 0, nI c, kd, na, nb, vK, vA, vB, eN, eV, eX, fN, fS, fE, fV) := by
  obtain ⟨P, C, b1, b2, d1, d2⟩ := X0
  have T : dm_Tr kd n := ⟨P.2.1, C.1⟩
  have hn := P.1
  have hE1 := dm_E_gt T hi
  have hE2 := dm_E_le T hi
  have hwj := dm_St_le _ _ _ _ St
  have hep := W.2.2.1
  have hun := W.2.2.2
  have hh : hp < 4096 := by omega
  have hj : j < 300 := by omega
  have hc4 : c < 4096 := by omega
  have hk := dm_HC_k (W.1 c hc)
  rw [← qv] at hk
  refine dm_G_y (fun post m h => y_l (by omega) (by omega) (y_s_T (by omega) (by omega) qN rfl rfl kT (y_7 h))) ?_
  exact hF m L p c W St hc qv ha (by omega) (by omega) (by omega)
theorem sF_B (X0 : dm_Fx kd na nb se fn tg tn n B D) (W : dm_Wd kd na nb fn n B hp ep un m L bo vK vA vB pF pS cT cB eN eV eX) (hi : i < n) (qN : fN j = nI i) (hc : c < hp) (qv : cv = m c) (ha : a + 1 ≤ D) (hpot : (p + 1) + 256 * (B - un) + 5 * hp < K + 1) (gx : gX + (K + 1) ≤ 16700) (gy : gY + (K + 1) ≤ 16700) (St : dm_St kd fn n hp ep un m L bo fN fS fE fV wN wF wB wV j w a p) (qK : kd i = 16) (qS : fS j = 3) (qW : wN w = nI i) (qF : wF w = 2) (hpos : j ≤ 32 * a + i) (hF : dm_SF kd na nb se fn tg tn n B D K) : dm_G (K + 1) gX gY (dm_en (w + 1)) (nI B, nI D, nI n, nI (dm_O kd n), 1, nI (dm_cnt kd n), 0, nI un, nI (a + 1), pk, 0, nI (w + 1), 0, cn, cb, cv, kd, na, nb, se, fn, tg, tn, pF, pS, cT, cB, bo, wN, wF, wB, wV) (nI B, nI D, nI n, 1, yo, nI un, nI (a + 1), pk, -1, nI hp, nI ep, nI (j + 1), 0, nI c, kd, na, nb, vK, vA, vB, eN, eV, eX, fN, fS, fE, fV) := by
  obtain ⟨P, C, b1, b2, d1, d2⟩ := X0
  have T : dm_Tr kd n := ⟨P.2.1, C.1⟩
  have hn := P.1
  have hE1 := dm_E_gt T hi
  have hE2 := dm_E_le T hi
  have hwj := dm_St_le _ _ _ _ St
  have hep := W.2.2.1
  have hun := W.2.2.2
  have hh : hp < 4096 := by omega
  have hj : j < 300 := by omega
  have hc4 : c < 4096 := by omega
  have hk := dm_HC_k (W.1 c hc)
  rw [← qv] at hk
  refine dm_G_s (fun post m h => x_lF (by omega) (x_r_body (by omega) qW (by omega) qF qK (x_7F (by omega) h))) (fun post m h => y_l (by omega) (by omega) (y_s_body (by omega) (by omega) qN qS rfl qK (y_7 h))) ?_
  exact hF m L p c W St hc qv (by omega) (by omega) (by omega) (by omega)
theorem sF_if (X0 : dm_Fx kd na nb se fn tg tn n B D) (W : dm_Wd kd na nb fn n B hp ep un m L bo vK vA vB pF pS cT cB eN eV eX) (hi : i < n) (qN : fN j = nI i) (hc : c < hp) (qv : cv = m c) (ha : a ≤ D) (hpot : (p + 7 + 8 * (dm_E kd i - dm_E kd (i + 1))) + 256 * (B - un) + 5 * hp < K + 1) (gx : gX + (K + 1) ≤ 16700) (gy : gY + (K + 1) ≤ 16700) (St : dm_St kd fn n hp ep un m L bo fN fS fE fV wN wF wB wV j w a p) (qS : fS j = 1) (qW : wN w = nI i) (qF : wF w = 0) (qE : fE j = dm_eI e) (qB : wB w = nI s) (he : e ≤ ep) (hs : s ≤ un) (EO : dm_EO hp m (L e) (fun x => bo (s * 8 + x)) (fun x => bt (fn i) x = true)) (hpos : j ≤ 32 * a + i) (qK : kd i = 9) (hE : dm_SE kd na nb se fn tg tn n B D K) : dm_G (K + 1) gX gY (dm_en (w + 1)) (nI B, nI D, nI n, nI (dm_O kd n), 1, nI (dm_cnt kd n), 0, nI un, nI a, pk, 0, nI (w + 1), 0, cn, cb, cv, kd, na, nb, se, fn, tg, tn, pF, pS, cT, cB, bo, wN, wF, wB, wV) (nI B, nI D, nI n, 1, yo, nI un, nI a, pk, -1, nI hp, nI ep, nI (j + 1), 0, nI c, kd, na, nb, vK, vA, vB, eN, eV, eX, fN, fS, fE, fV) := by
  obtain ⟨P, C, b1, b2, d1, d2⟩ := X0
  have T : dm_Tr kd n := ⟨P.2.1, C.1⟩
  have hn := P.1
  have hE1 := dm_E_gt T hi
  have hE2 := dm_E_le T hi
  have hwj := dm_St_le _ _ _ _ St
  have hep := W.2.2.1
  have hun := W.2.2.2
  have hh : hp < 4096 := by omega
  have hj : j < 300 := by omega
  have hc4 : c < 4096 := by omega
  have hk := dm_HC_k (W.1 c hc)
  rw [← qv] at hk
  have ar3 : dm_ar (kd i) = 3 := by
    rw [qK]
    decide
  have h0 := dm_ch_lt T hi (c := 0) (by omega)
  rw [dm_ch0] at h0
  have h1 := dm_ch_lt T hi (c := 1) (by omega)
  by_cases k1 : vK c = 1
  · have ev : cv.toInt32 = vA c := by
      rw [qv]
      exact dm_HC_i (W.1 c hc) k1
    obtain ⟨b, hb, hb2⟩ : ∃ b, ((vA c = 0 ∧ b = 2) ∨ (¬ vA c = 0 ∧ b = 1)) ∧ (b = 1 ∨ b = 2) := by
      by_cases z : vA c = 0
      · exact ⟨2, Or.inl ⟨z, rfl⟩, Or.inr rfl⟩
      · exact ⟨1, Or.inr ⟨z, rfl⟩, Or.inl rfl⟩
    have hbl := dm_ch_lt T hi (c := b) (by omega)
    have hbg := dm_ch_gt T hi (c := b) (by omega)
    have hbE := dm_ch_in T hi (c := b) (by omega)
    have hbm := dm_ch_mono T hi b 0 (by omega) (by omega)
    rw [dm_ch0] at hbm
    have hbgt := dm_E_gt T hbl
    have St2 := dm_St_x (fN' := upd fN (j + 1) (nI (dm_ch kd i b))) (fS' := upd (upd fS j 2) (j + 1) 0) (fE' := upd fE (j + 1) (dm_eI e)) (fV' := upd fV (j + 1) (-1)) (dm_Ex_r (hp := hp) (ep := ep) (un := un) (m := m) (bo := bo) (L := L)) j w a p (fun q hq => ⟨pk_un (by omega), by rw [pk_un (by omega), pk_un (by omega)], pk_un (by omega), pk_un (by omega)⟩) (fun _ _ => ⟨rfl, rfl, rfl, rfl⟩) St
    refine dm_G_s (fun post m h => x_lF (by omega) (x_r_if hn h0 h1 C.2.1 (by omega) qW qK (by rw [hk, k1]) (by rw [ev]; exact hb) (x_7E h))) (fun post m h => y_l (by omega) (by omega) (y_s_if (by omega) (by omega) qN qS qE qK hc4 k1 hb (by omega) P T hi (y_7 h))) ?_
    rw [qB]
    refine hE m L (p + 1) e W ⟨i, hi, by rw [pk_un (by omega), qN], Or.inl ⟨p, Or.inl ⟨qK, by rw [pk_un (by omega), pk_us]⟩, hpos, rfl, St2⟩⟩ hbl pk_us pk_us pk_us he hs ?_ (by omega) ha (by omega) (by omega) (by omega)
    refine dm_EO_w EO (fun x hx hw => (C.2.2.1 i hi x (by omega)).mpr (Or.inr ⟨b, by omega, hw, ?_⟩))
    rintro (⟨g, _⟩ | ⟨g, _⟩ | ⟨g, _⟩) <;> rw [qK] at g <;> exact absurd g (by decide)
  · refine dm_G_e (by omega) (fun k => ?_) (fun post m h => x_lF (by omega) (x_r_if8 (by omega) qW (by omega) qK (by rw [hk]; exact k1) (x_7e (by decide) h))) (fun post m h => y_l (by omega) (by omega) (y_s_if8 (by omega) (by omega) qN qS qE qK hc4 k1 (y_7e (by decide) h)))
    exact ⟨_, _, n, rfl, rfl, rfl, rfl, rfl, rfl, rfl, rfl, rfl, rfl, rfl, rfl, rfl, rfl, b1, b2, d1, d2, P, Or.inr ⟨rfl, rfl, C, Or.inl ⟨rfl, rfl⟩⟩⟩
theorem sF_fst (X0 : dm_Fx kd na nb se fn tg tn n B D) (W : dm_Wd kd na nb fn n B hp ep un m L bo vK vA vB pF pS cT cB eN eV eX) (hi : i < n) (qN : fN j = nI i) (hc : c < hp) (qv : cv = m c) (ha : a ≤ D) (hpot : (p + 7 + 8 * (dm_E kd i - dm_E kd (i + 1))) + 256 * (B - un) + 5 * hp < K + 1) (gx : gX + (K + 1) ≤ 16700) (gy : gY + (K + 1) ≤ 16700) (St : dm_St kd fn n hp ep un m L bo fN fS fE fV wN wF wB wV j w a p) (qS : fS j = 1) (qW : wN w = nI i) (qF : wF w = 0) (qE : fE j = dm_eI e) (qB : wB w = nI s) (he : e ≤ ep) (hs : s ≤ un) (EO : dm_EO hp m (L e) (fun x => bo (s * 8 + x)) (fun x => bt (fn i) x = true)) (hpos : j ≤ 32 * a + i) (qK : kd i = 11) (hF : dm_SF kd na nb se fn tg tn n B D K) : dm_G (K + 1) gX gY (dm_en (w + 1)) (nI B, nI D, nI n, nI (dm_O kd n), 1, nI (dm_cnt kd n), 0, nI un, nI a, pk, 0, nI (w + 1), 0, cn, cb, cv, kd, na, nb, se, fn, tg, tn, pF, pS, cT, cB, bo, wN, wF, wB, wV) (nI B, nI D, nI n, 1, yo, nI un, nI a, pk, -1, nI hp, nI ep, nI (j + 1), 0, nI c, kd, na, nb, vK, vA, vB, eN, eV, eX, fN, fS, fE, fV) := by
  obtain ⟨P, C, b1, b2, d1, d2⟩ := X0
  have T : dm_Tr kd n := ⟨P.2.1, C.1⟩
  have hn := P.1
  have hE1 := dm_E_gt T hi
  have hE2 := dm_E_le T hi
  have hwj := dm_St_le _ _ _ _ St
  have hep := W.2.2.1
  have hun := W.2.2.2
  have hh : hp < 4096 := by omega
  have hj : j < 300 := by omega
  have hc4 : c < 4096 := by omega
  have hk := dm_HC_k (W.1 c hc)
  rw [← qv] at hk
  by_cases k2 : vK c = 2
  · obtain ⟨p1, a1, c1, t1, t2, t3, t4, t5, t6, t7, t8, t9⟩ := dm_HC_p (W.1 c hc) k2
    have ev : cv.toInt32 = nI p1 := by
      rw [qv]
      exact t5
    refine dm_G_s (fun post m h => x_lF (by omega) (x_r_fst (by omega) qW (by omega) qK (by rw [hk, k2]) ev (by omega) (x_7F (by omega) h))) (fun post m h => y_l (by omega) (by omega) (y_s_fst (by omega) (by omega) qN qS qE qK hc4 k2 (y_7 h))) ?_
    rw [t6]
    exact hF m L p a1 W St (by omega) t8 ha (by omega) (by omega) (by omega)
  · refine dm_G_e (by omega) (fun k => ?_) (fun post m h => x_lF (by omega) (x_r_part10 (by omega) qW (by omega) (Or.inl qK) (by rw [hk]; exact k2) (x_7e (by decide) h))) (fun post m h => y_l (by omega) (by omega) (y_s_fst10 (by omega) (by omega) qN qS qE qK hc4 k2 (y_7e (by decide) h)))
    exact ⟨_, _, n, rfl, rfl, rfl, rfl, rfl, rfl, rfl, rfl, rfl, rfl, rfl, rfl, rfl, rfl, b1, b2, d1, d2, P, Or.inr ⟨rfl, rfl, C, Or.inl ⟨rfl, rfl⟩⟩⟩
theorem sF_snd (X0 : dm_Fx kd na nb se fn tg tn n B D) (W : dm_Wd kd na nb fn n B hp ep un m L bo vK vA vB pF pS cT cB eN eV eX) (hi : i < n) (qN : fN j = nI i) (hc : c < hp) (qv : cv = m c) (ha : a ≤ D) (hpot : (p + 7 + 8 * (dm_E kd i - dm_E kd (i + 1))) + 256 * (B - un) + 5 * hp < K + 1) (gx : gX + (K + 1) ≤ 16700) (gy : gY + (K + 1) ≤ 16700) (St : dm_St kd fn n hp ep un m L bo fN fS fE fV wN wF wB wV j w a p) (qS : fS j = 1) (qW : wN w = nI i) (qF : wF w = 0) (qE : fE j = dm_eI e) (qB : wB w = nI s) (he : e ≤ ep) (hs : s ≤ un) (EO : dm_EO hp m (L e) (fun x => bo (s * 8 + x)) (fun x => bt (fn i) x = true)) (hpos : j ≤ 32 * a + i) (qK : kd i = 12) (hF : dm_SF kd na nb se fn tg tn n B D K) : dm_G (K + 1) gX gY (dm_en (w + 1)) (nI B, nI D, nI n, nI (dm_O kd n), 1, nI (dm_cnt kd n), 0, nI un, nI a, pk, 0, nI (w + 1), 0, cn, cb, cv, kd, na, nb, se, fn, tg, tn, pF, pS, cT, cB, bo, wN, wF, wB, wV) (nI B, nI D, nI n, 1, yo, nI un, nI a, pk, -1, nI hp, nI ep, nI (j + 1), 0, nI c, kd, na, nb, vK, vA, vB, eN, eV, eX, fN, fS, fE, fV) := by
  obtain ⟨P, C, b1, b2, d1, d2⟩ := X0
  have T : dm_Tr kd n := ⟨P.2.1, C.1⟩
  have hn := P.1
  have hE1 := dm_E_gt T hi
  have hE2 := dm_E_le T hi
  have hwj := dm_St_le _ _ _ _ St
  have hep := W.2.2.1
  have hun := W.2.2.2
  have hh : hp < 4096 := by omega
  have hj : j < 300 := by omega
  have hc4 : c < 4096 := by omega
  have hk := dm_HC_k (W.1 c hc)
  rw [← qv] at hk
  by_cases k2 : vK c = 2
  · obtain ⟨p1, a1, c1, t1, t2, t3, t4, t5, t6, t7, t8, t9⟩ := dm_HC_p (W.1 c hc) k2
    have ev : cv.toInt32 = nI p1 := by
      rw [qv]
      exact t5
    refine dm_G_s (fun post m h => x_lF (by omega) (x_r_snd (by omega) qW (by omega) qK (by rw [hk, k2]) ev (by omega) (x_7F (by omega) h))) (fun post m h => y_l (by omega) (by omega) (y_s_snd (by omega) (by omega) qN qS qE qK hc4 k2 (y_7 h))) ?_
    rw [t7]
    exact hF m L p c1 W St (by omega) t9 ha (by omega) (by omega) (by omega)
  · refine dm_G_e (by omega) (fun k => ?_) (fun post m h => x_lF (by omega) (x_r_part10 (by omega) qW (by omega) (Or.inr qK) (by rw [hk]; exact k2) (x_7e (by decide) h))) (fun post m h => y_l (by omega) (by omega) (y_s_snd10 (by omega) (by omega) qN qS qE qK hc4 k2 (y_7e (by decide) h)))
    exact ⟨_, _, n, rfl, rfl, rfl, rfl, rfl, rfl, rfl, rfl, rfl, rfl, rfl, rfl, rfl, rfl, b1, b2, d1, d2, P, Or.inr ⟨rfl, rfl, C, Or.inl ⟨rfl, rfl⟩⟩⟩
theorem sF_let (X0 : dm_Fx kd na nb se fn tg tn n B D) (W : dm_Wd kd na nb fn n B hp ep un m L bo vK vA vB pF pS cT cB eN eV eX) (hi : i < n) (qN : fN j = nI i) (hc : c < hp) (qv : cv = m c) (ha : a ≤ D) (hpot : (p + 7 + 8 * (dm_E kd i - dm_E kd (i + 1))) + 256 * (B - un) + 5 * hp < K + 1) (gx : gX + (K + 1) ≤ 16700) (gy : gY + (K + 1) ≤ 16700) (St : dm_St kd fn n hp ep un m L bo fN fS fE fV wN wF wB wV j w a p) (qS : fS j = 1) (qW : wN w = nI i) (qF : wF w = 0) (qE : fE j = dm_eI e) (qB : wB w = nI s) (he : e ≤ ep) (hs : s ≤ un) (EO : dm_EO hp m (L e) (fun x => bo (s * 8 + x)) (fun x => bt (fn i) x = true)) (hpos : j ≤ 32 * a + i) (qK : kd i = 14) (hE : dm_SE kd na nb se fn tg tn n B D K) : dm_G (K + 1) gX gY (dm_en (w + 1)) (nI B, nI D, nI n, nI (dm_O kd n), 1, nI (dm_cnt kd n), 0, nI un, nI a, pk, 0, nI (w + 1), 0, cn, cb, cv, kd, na, nb, se, fn, tg, tn, pF, pS, cT, cB, bo, wN, wF, wB, wV) (nI B, nI D, nI n, 1, yo, nI un, nI a, pk, -1, nI hp, nI ep, nI (j + 1), 0, nI c, kd, na, nb, vK, vA, vB, eN, eV, eX, fN, fS, fE, fV) := by
  obtain ⟨P, C, b1, b2, d1, d2⟩ := X0
  have T : dm_Tr kd n := ⟨P.2.1, C.1⟩
  have hn := P.1
  have hE1 := dm_E_gt T hi
  have hE2 := dm_E_le T hi
  have hwj := dm_St_le _ _ _ _ St
  have hep := W.2.2.1
  have hun := W.2.2.2
  have hh : hp < 4096 := by omega
  have hj : j < 300 := by omega
  have hc4 : c < 4096 := by omega
  have hk := dm_HC_k (W.1 c hc)
  rw [← qv] at hk
  obtain ⟨y, hy, ey⟩ := (P.2.2 i hi).2.1 (Or.inr (Or.inr (Or.inl qK)))
  have ar2 : dm_ar (kd i) = 2 := by
    rw [qK]
    decide
  have h0 := dm_ch_lt T hi (c := 0) (by omega)
  rw [dm_ch0] at h0
  have h1 := dm_ch_lt T hi (c := 1) (by omega)
  have h1g := dm_ch_gt T hi (c := 1) (by omega)
  have h1E := dm_ch_in T hi (c := 1) (by omega)
  have h1m := dm_ch_mono T hi 1 0 (by omega) (by omega)
  rw [dm_ch0] at h1m
  have h1gt := dm_E_gt T h1
  by_cases hu : un < B
  · obtain ⟨X, W1⟩ := dm_Wd_unit (bo' := vp_updL (dm_cp bo s (un + 1) 8) ((un + 1) * 8 + y) cv) (pF' := pF) (pS' := pS) (cT' := cT) (cB' := cB) W hu (fun k hk => by rw [dm_b1_lo hk, dm_cp_lo hk]) (fun _ _ => rfl) (fun _ _ => rfl) (fun _ _ => rfl) (fun _ _ => rfl)
    obtain ⟨X2, W3⟩ := dm_Wd_env W1 hy hc he (by omega)
    have X3 := dm_Ex_t X X2
    have St2 := dm_St_x (fN' := upd fN (j + 1) (nI (dm_ch kd i 1))) (fS' := upd (upd fS j 2) (j + 1) 0) (fE' := upd fE (j + 1) (nI ep)) (fV' := upd fV (j + 1) (-1)) X3 j w a p (fun q hq => ⟨pk_un (by omega), by rw [pk_un (by omega), pk_un (by omega)], pk_un (by omega), pk_un (by omega)⟩) (fun _ _ => ⟨rfl, rfl, rfl, rfl⟩) St
    refine dm_G_s (fun post m h => x_lF (by omega) (x_r_let hn h0 (C.2.1 _ h0) (by omega) qW qB qK ey hy hs hu b2 (x_7E h))) (fun post m h => y_l (by omega) (by omega) (y_s_let (by omega) (by omega) qN qS qE qK (by omega) ey P T hi (by omega) hu b2 (y_7 h))) ?_
    refine hE _ _ (p + 1) (ep + 1) W3 ⟨i, hi, by rw [pk_un (by omega), qN], Or.inl ⟨p, Or.inr (Or.inl ⟨qK, by rw [pk_un (by omega), pk_us]⟩), hpos, rfl, St2⟩⟩ h1 pk_us pk_us (by rw [pk_us, dm_eIs]) (Nat.le_refl _) (Nat.le_refl _) ?_ (by omega) ha (by omega) (by omega) (by omega)
    refine dm_EO_b (y := y) (c0 := c) (Le := L e) (bs := fun x => bo (s * 8 + x)) ?_ hc (fun x hx => dm_Ls_n) (fun x hx => ?_)
    · refine dm_EO_w EO (fun x hx hw => ?_)
      exact (C.2.2.1 i hi x (by omega)).mpr (Or.inr ⟨1, by omega, hw.1, dm_nb1 ey hx hy hw.2⟩)
    · rw [dm_b1_in, dm_cp_in hx, qv]
  · have eu : un = B := by omega
    subst eu
    refine dm_G_e (by omega) (fun k => ?_) (fun post m h => x_lF (by omega) (x_r_let12 (by omega) qW (by omega) qK (x_7e (by decide) h))) (fun post m h => y_l (by omega) (by omega) (y_s_let12 (by omega) (by omega) qN qS qE qK (y_7e (by decide) h)))
    exact ⟨_, _, n, rfl, rfl, rfl, rfl, rfl, rfl, rfl, rfl, rfl, rfl, rfl, rfl, rfl, rfl, b1, b2, d1, d2, P, Or.inr ⟨rfl, rfl, C, Or.inl ⟨rfl, rfl⟩⟩⟩
theorem sF_one (X0 : dm_Fx kd na nb se fn tg tn n B D) (W : dm_Wd kd na nb fn n B hp ep un m L bo vK vA vB pF pS cT cB eN eV eX) (hi : i < n) (qN : fN j = nI i) (hc : c < hp) (qv : cv = m c) (ha : a ≤ D) (hpot : (p + 7 + 8 * (dm_E kd i - dm_E kd (i + 1))) + 256 * (B - un) + 5 * hp < K + 1) (gx : gX + (K + 1) ≤ 16700) (gy : gY + (K + 1) ≤ 16700) (St : dm_St kd fn n hp ep un m L bo fN fS fE fV wN wF wB wV j w a p) (qS : fS j = 1) (qW : wN w = nI i) (qF : wF w = 0) (qE : fE j = dm_eI e) (qB : wB w = nI s) (he : e ≤ ep) (hs : s ≤ un) (EO : dm_EO hp m (L e) (fun x => bo (s * 8 + x)) (fun x => bt (fn i) x = true)) (hpos : j ≤ 32 * a + i) (kS : dm_kS (kd i)) (hE : dm_SE kd na nb se fn tg tn n B D K) : dm_G (K + 1) gX gY (dm_en (w + 1)) (nI B, nI D, nI n, nI (dm_O kd n), 1, nI (dm_cnt kd n), 0, nI un, nI a, pk, 0, nI (w + 1), 0, cn, cb, cv, kd, na, nb, se, fn, tg, tn, pF, pS, cT, cB, bo, wN, wF, wB, wV) (nI B, nI D, nI n, 1, yo, nI un, nI a, pk, -1, nI hp, nI ep, nI (j + 1), 0, nI c, kd, na, nb, vK, vA, vB, eN, eV, eX, fN, fS, fE, fV) := by
  obtain ⟨P, C, b1, b2, d1, d2⟩ := X0
  have T : dm_Tr kd n := ⟨P.2.1, C.1⟩
  have hn := P.1
  have hE1 := dm_E_gt T hi
  have hE2 := dm_E_le T hi
  have hwj := dm_St_le _ _ _ _ St
  have hep := W.2.2.1
  have hun := W.2.2.2
  have hh : hp < 4096 := by omega
  have hj : j < 300 := by omega
  have hc4 : c < 4096 := by omega
  have hk := dm_HC_k (W.1 c hc)
  rw [← qv] at hk
  have ar2 := dm_kS_ar kS
  have h0 := dm_ch_lt T hi (c := 0) (by omega)
  rw [dm_ch0] at h0
  have h1 := dm_ch_lt T hi (c := 1) (by omega)
  have h1g := dm_ch_gt T hi (c := 1) (by omega)
  have h1E := dm_ch_in T hi (c := 1) (by omega)
  have h1m := dm_ch_mono T hi 1 0 (by omega) (by omega)
  rw [dm_ch0] at h1m
  have h1gt := dm_E_gt T h1
  have St2 := dm_St_x (fN' := upd fN (j + 1) (nI (dm_ch kd i 1))) (fS' := upd (upd fS j 2) (j + 1) 0) (fE' := upd fE (j + 1) (dm_eI e)) (fV' := upd (upd fV j (nI c)) (j + 1) (-1)) (wN' := wN) (wF' := upd wF w 1) (wB' := wB) (wV' := vp_updL wV w cv) (dm_Ex_r (hp := hp) (ep := ep) (un := un) (m := m) (bo := bo) (L := L)) j w a p (fun q hq => ⟨pk_un (by omega), by rw [pk_un (by omega), pk_un (by omega)], pk_un (by omega), by rw [pk_un (by omega), pk_un (by omega)]⟩) (fun q hq => ⟨rfl, pk_un (by omega), rfl, pk_uLn (by omega)⟩) St
  refine dm_G_s (fun post m h => x_lF (by omega) (x_r_one hn h0 (C.2.1 _ h0) (by omega) qW qF kS (x_7E h))) (fun post m h => y_l (by omega) (by omega) (y_s_one (by omega) (by omega) qN qS qE kS ar2 (by omega) P T hi (y_7 h))) ?_
  rw [qB]
  refine hE m L (p + 6) e W ⟨i, hi, by rw [pk_un (by omega), qN], Or.inr (Or.inr (Or.inr ⟨w, p, c, rfl, rfl, by rw [pk_un (by omega), pk_us], kS, qW, pk_us, hc, by rw [pk_un (by omega), pk_us], by rw [pk_uLs, qv], hpos, St2⟩))⟩ h1 pk_us pk_us pk_us he hs ?_ (by omega) ha (by omega) (by omega) (by omega)
  obtain ⟨n1, n2, n13, n15, n9, n11, n12, n14⟩ := dm_kS_n kS
  refine dm_EO_w EO (fun x hx hw => (C.2.2.1 i hi x (by omega)).mpr (Or.inr ⟨1, by omega, hw, ?_⟩))
  rintro (⟨g, _⟩ | ⟨g, _⟩ | ⟨g, _⟩)
  · exact n13 g
  · exact n14 g
  · exact n15 g
theorem sF_pair (X0 : dm_Fx kd na nb se fn tg tn n B D) (W : dm_Wd kd na nb fn n B hp ep un m L bo vK vA vB pF pS cT cB eN eV eX) (hi : i < n) (qN : fN j = nI i) (hc : c < hp) (qv : cv = m c) (ha : a ≤ D) (hpot : (p + 6) + 256 * (B - un) + 5 * hp < K + 1) (gx : gX + (K + 1) ≤ 16700) (gy : gY + (K + 1) ≤ 16700) (St : dm_St kd fn n hp ep un m L bo fN fS fE fV wN wF wB wV j w a p) (qS : fS j = 2) (qW : wN w = nI i) (qF : wF w = 1) (hd : d < hp) (qV : fV j = nI d) (qX : wV w = m d) (hpos : j ≤ 32 * a + i) (qK : kd i = 10) (hF : dm_SF kd na nb se fn tg tn n B D K) : dm_G (K + 1) gX gY (dm_en (w + 1)) (nI B, nI D, nI n, nI (dm_O kd n), 1, nI (dm_cnt kd n), 0, nI un, nI a, pk, 0, nI (w + 1), 0, cn, cb, cv, kd, na, nb, se, fn, tg, tn, pF, pS, cT, cB, bo, wN, wF, wB, wV) (nI B, nI D, nI n, 1, yo, nI un, nI a, pk, -1, nI hp, nI ep, nI (j + 1), 0, nI c, kd, na, nb, vK, vA, vB, eN, eV, eX, fN, fS, fE, fV) := by
  obtain ⟨P, C, b1, b2, d1, d2⟩ := X0
  have T : dm_Tr kd n := ⟨P.2.1, C.1⟩
  have hn := P.1
  have hE1 := dm_E_gt T hi
  have hE2 := dm_E_le T hi
  have hwj := dm_St_le _ _ _ _ St
  have hep := W.2.2.1
  have hun := W.2.2.2
  have hh : hp < 4096 := by omega
  have hj : j < 300 := by omega
  have hc4 : c < 4096 := by omega
  have hk := dm_HC_k (W.1 c hc)
  rw [← qv] at hk
  have hd4 : d < 4096 := by omega
  have hk2 := dm_HC_k (W.1 d hd)
  rw [← qX] at hk2
  by_cases hu : un < B
  · obtain ⟨X, W2⟩ := dm_Wd_pair W hu hd hc
    rw [← qX, ← qv] at W2
    have St2 := dm_St_x X j w a p (fun _ _ => ⟨rfl, rfl, rfl, rfl⟩) (fun _ _ => ⟨rfl, rfl, rfl, rfl⟩) St
    refine dm_G_s (fun post m h => x_lF (by omega) (x_r_pair (by omega) qW (by omega) qF qK hu b2 (x_7F (by omega) h))) (fun post m h => y_l (by omega) (by omega) (y_s_pair (by omega) (by omega) qN qS rfl qV qK hh hu b2 (y_7 h))) ?_
    exact hF _ L p hp W2 St2 (by omega) pk_uLs.symm ha (by omega) (by omega) (by omega)
  · have eu : un = B := by omega
    subst eu
    refine dm_G_e (by omega) (fun k => ?_) (fun post m h => x_lF (by omega) (x_r_pair12 (by omega) qW (by omega) qF qK (x_7e (by decide) h))) (fun post m h => y_l (by omega) (by omega) (y_s_pair12 (by omega) (by omega) qN qS rfl qV qK (y_7e (by decide) h)))
    exact ⟨_, _, n, rfl, rfl, rfl, rfl, rfl, rfl, rfl, rfl, rfl, rfl, rfl, rfl, rfl, rfl, b1, b2, d1, d2, P, Or.inr ⟨rfl, rfl, C, Or.inl ⟨rfl, rfl⟩⟩⟩
theorem sF_bin (X0 : dm_Fx kd na nb se fn tg tn n B D) (W : dm_Wd kd na nb fn n B hp ep un m L bo vK vA vB pF pS cT cB eN eV eX) (hi : i < n) (qN : fN j = nI i) (hc : c < hp) (qv : cv = m c) (ha : a ≤ D) (hpot : (p + 6) + 256 * (B - un) + 5 * hp < K + 1) (gx : gX + (K + 1) ≤ 16700) (gy : gY + (K + 1) ≤ 16700) (St : dm_St kd fn n hp ep un m L bo fN fS fE fV wN wF wB wV j w a p) (qS : fS j = 2) (qW : wN w = nI i) (qF : wF w = 1) (hd : d < hp) (qV : fV j = nI d) (qX : wV w = m d) (hpos : j ≤ 32 * a + i) (kB : dm_kB (kd i)) (hF : dm_SF kd na nb se fn tg tn n B D K) : dm_G (K + 1) gX gY (dm_en (w + 1)) (nI B, nI D, nI n, nI (dm_O kd n), 1, nI (dm_cnt kd n), 0, nI un, nI a, pk, 0, nI (w + 1), 0, cn, cb, cv, kd, na, nb, se, fn, tg, tn, pF, pS, cT, cB, bo, wN, wF, wB, wV) (nI B, nI D, nI n, 1, yo, nI un, nI a, pk, -1, nI hp, nI ep, nI (j + 1), 0, nI c, kd, na, nb, vK, vA, vB, eN, eV, eX, fN, fS, fE, fV) := by
  obtain ⟨P, C, b1, b2, d1, d2⟩ := X0
  have T : dm_Tr kd n := ⟨P.2.1, C.1⟩
  have hn := P.1
  have hE1 := dm_E_gt T hi
  have hE2 := dm_E_le T hi
  have hwj := dm_St_le _ _ _ _ St
  have hep := W.2.2.1
  have hun := W.2.2.2
  have hh : hp < 4096 := by omega
  have hj : j < 300 := by omega
  have hc4 : c < 4096 := by omega
  have hk := dm_HC_k (W.1 c hc)
  rw [← qv] at hk
  have hd4 : d < 4096 := by omega
  have hk2 := dm_HC_k (W.1 d hd)
  rw [← qX] at hk2
  by_cases kd1 : vK d = 1
  · by_cases kc1 : vK c = 1
    · have e1 : (wV w).toInt32 = vA d := by
        rw [qX]
        exact dm_HC_i (W.1 d hd) kd1
      have e2 : cv.toInt32 = vA c := by
        rw [qv]
        exact dm_HC_i (W.1 c hc) kc1
      by_cases dz : kd i = 6 ∧ vA c = 0
      · refine dm_G_e (by omega) (fun k => ?_) (fun post m h => x_lF (by omega) (x_r_bin (by omega) qW (by omega) qF kB (by rw [dz.1]; exact x_b11 (by rw [hk2, kd1]) (by rw [hk, kc1]) (by rw [e2]; exact dz.2) (x_7e (by decide) h)))) (fun post m h => y_l (by omega) (by omega) (y_s_bin (by omega) (by omega) qN qS rfl qV kB (by rw [dz.1]; exact y_b11 hd4 hc4 kd1 kc1 dz.2 (y_7e (by decide) h))))
        exact ⟨_, _, n, rfl, rfl, rfl, rfl, rfl, rfl, rfl, rfl, rfl, rfl, rfl, rfl, rfl, rfl, b1, b2, d1, d2, P, Or.inr ⟨rfl, rfl, C, Or.inl ⟨rfl, rfl⟩⟩⟩
      · obtain ⟨X, W2⟩ := dm_Wd_int W (dm_bin (kd i) (vA d) (vA c)) 0
        have St2 := dm_St_x X j w a p (fun _ _ => ⟨rfl, rfl, rfl, rfl⟩) (fun _ _ => ⟨rfl, rfl, rfl, rfl⟩) St
        refine dm_G_s (fun post m h => x_lF (by omega) (x_r_bin (by omega) qW (by omega) qF kB (x_b (by rw [hk2, kd1]) (by rw [hk, kc1]) (by rw [e2]; exact dz) kB (x_7F (by omega) h)))) (fun post m h => y_l (by omega) (by omega) (y_s_bin (by omega) (by omega) qN qS rfl qV kB (y_b hd4 hc4 hh kd1 kc1 dz kB (y_7 h)))) ?_
        rw [e1, e2]
        exact hF _ L p hp W2 St2 (by omega) pk_uLs.symm ha (by omega) (by omega) (by omega)
    · refine dm_G_e (by omega) (fun k => ?_) (fun post m h => x_lF (by omega) (x_r_bin (by omega) qW (by omega) qF kB (x_b8b (by rw [hk2, kd1]) (by rw [hk]; exact kc1) (x_7e (by decide) h)))) (fun post m h => y_l (by omega) (by omega) (y_s_bin (by omega) (by omega) qN qS rfl qV kB (y_b8b hd4 hc4 kd1 kc1 (y_7e (by decide) h))))
      exact ⟨_, _, n, rfl, rfl, rfl, rfl, rfl, rfl, rfl, rfl, rfl, rfl, rfl, rfl, rfl, rfl, b1, b2, d1, d2, P, Or.inr ⟨rfl, rfl, C, Or.inl ⟨rfl, rfl⟩⟩⟩
  · refine dm_G_e (by omega) (fun k => ?_) (fun post m h => x_lF (by omega) (x_r_bin (by omega) qW (by omega) qF kB (x_b8a (by rw [hk2]; exact kd1) (x_7e (by decide) h)))) (fun post m h => y_l (by omega) (by omega) (y_s_bin (by omega) (by omega) qN qS rfl qV kB (y_b8a hd4 kd1 (y_7e (by decide) h))))
    exact ⟨_, _, n, rfl, rfl, rfl, rfl, rfl, rfl, rfl, rfl, rfl, rfl, rfl, rfl, rfl, rfl, b1, b2, d1, d2, P, Or.inr ⟨rfl, rfl, C, Or.inl ⟨rfl, rfl⟩⟩⟩
theorem sF_app (X0 : dm_Fx kd na nb se fn tg tn n B D) (W : dm_Wd kd na nb fn n B hp ep un m L bo vK vA vB pF pS cT cB eN eV eX) (hi : i < n) (qN : fN j = nI i) (hc : c < hp) (qv : cv = m c) (ha : a ≤ D) (hpot : (p + 6) + 256 * (B - un) + 5 * hp < K + 1) (gx : gX + (K + 1) ≤ 16700) (gy : gY + (K + 1) ≤ 16700) (St : dm_St kd fn n hp ep un m L bo fN fS fE fV wN wF wB wV j w a p) (qS : fS j = 2) (qW : wN w = nI i) (qF : wF w = 1) (hd : d < hp) (qV : fV j = nI d) (qX : wV w = m d) (hpos : j ≤ 32 * a + i) (qK : kd i = 16) (hE : dm_SE kd na nb se fn tg tn n B D K) : dm_G (K + 1) gX gY (dm_en (w + 1)) (nI B, nI D, nI n, nI (dm_O kd n), 1, nI (dm_cnt kd n), 0, nI un, nI a, pk, 0, nI (w + 1), 0, cn, cb, cv, kd, na, nb, se, fn, tg, tn, pF, pS, cT, cB, bo, wN, wF, wB, wV) (nI B, nI D, nI n, 1, yo, nI un, nI a, pk, -1, nI hp, nI ep, nI (j + 1), 0, nI c, kd, na, nb, vK, vA, vB, eN, eV, eX, fN, fS, fE, fV) := by
  obtain ⟨P, C, b1, b2, d1, d2⟩ := X0
  have T : dm_Tr kd n := ⟨P.2.1, C.1⟩
  have hn := P.1
  have hE1 := dm_E_gt T hi
  have hE2 := dm_E_le T hi
  have hwj := dm_St_le _ _ _ _ St
  have hep := W.2.2.1
  have hun := W.2.2.2
  have hh : hp < 4096 := by omega
  have hj : j < 300 := by omega
  have hc4 : c < 4096 := by omega
  have hk := dm_HC_k (W.1 c hc)
  rw [← qv] at hk
  have hd4 : d < 4096 := by omega
  have hk2 := dm_HC_k (W.1 d hd)
  rw [← qX] at hk2
  by_cases k3 : vK d = 3
  · by_cases hu : un < B
    · by_cases hd3 : a < D
      · obtain ⟨p1, l, e, s, t1, t2, hl, kl, he, hs, t3, t4, t5, t6, t7, EO⟩ := dm_HC_f (W.1 d hd) k3
        have ed : (wV w).toInt32 = nI p1 := by
          rw [qX]
          exact t3
        obtain ⟨y, hy, ey⟩ := (P.2.2 l hl).2.1 (by rcases kl with g | g <;> simp [g])
        have arl : 0 < dm_ar (kd l) := by
          rcases kl with g | g <;> rw [g] <;> decide
        have hl1 := dm_ch_lt T hl (c := 0) arl
        rw [dm_ch0] at hl1
        have hlE := dm_E_le T hl1
        have hlg := dm_E_gt T hl1
        have hcl := dm_cnt_le kd l
        have qL := (C.2.2.2.2 l hl kl).2
        by_cases k15 : kd l = 15
        · obtain ⟨z, hz, ez⟩ := (P.2.2 l hl).2.2 k15
          obtain ⟨X, W1⟩ := dm_Wd_unit (bo' := vp_updL (vp_updL (dm_cp bo s (un + 1) 8) ((un + 1) * 8 + y) (wV w)) ((un + 1) * 8 + z) cv) (pF' := pF) (pS' := pS) (cT' := cT) (cB' := cB) W hu (fun k hk => by rw [dm_b1_lo hk, dm_b1_lo hk, dm_cp_lo hk]) (fun _ _ => rfl) (fun _ _ => rfl) (fun _ _ => rfl) (fun _ _ => rfl)
          obtain ⟨X2, W2⟩ := dm_Wd_env W1 hy hd he (by omega)
          obtain ⟨X4, W3⟩ := dm_Wd_env (q := ep + 1) W2 hz hc (Nat.le_refl _) (by omega)
          have X3 := dm_Ex_t (dm_Ex_t X X2) X4
          rw [dm_eIs] at W3
          have St2 := dm_St_x (fN' := upd fN (j + 1) (nI (l + 1))) (fS' := upd (upd fS j 3) (j + 1) 0) (fE' := upd fE (j + 1) (nI (ep + 1))) (fV' := upd fV (j + 1) (-1)) (wN' := wN) (wF' := upd wF w 2) (wB' := wB) (wV' := wV) X3 j w a p (fun q hq => ⟨pk_un (by omega), by rw [pk_un (by omega), pk_un (by omega)], pk_un (by omega), pk_un (by omega)⟩) (fun q hq => ⟨rfl, pk_un (by omega), rfl, rfl⟩) St
          refine dm_G_s (fun post m h => x_lF (by omega) (x_r_app (by omega) qW (by omega) qF qK (x_a0 (by rw [hk2, k3]) ed (by omega) hu b2 hd3 d2 t6 (by omega) qL (by omega) t7 hs ey hy (fun _ => ez) hz (fun g => absurd k15 g) (fun _ => x_7E h)))) (fun post m h => y_l (by omega) (by omega) (y_s_app (by omega) (by omega) qN qS rfl qV qK (y_a0r (by omega) (by omega) hd4 k3 hu b2 hd3 d2 (by omega) t4 t5 k15 ey (fun _ => ez) (by omega) (y_7 h)))) ?_
          refine hE _ _ (p + 1) (ep + 1 + 1) W3 ⟨i, hi, by rw [pk_un (by omega), qN], Or.inr (Or.inl ⟨w, a, p, rfl, rfl, rfl, qK, by rw [pk_un (by omega), pk_us], qW, pk_us, hpos, St2⟩)⟩ hl1 pk_us pk_us (by rw [pk_us, dm_eIs]) (Nat.le_refl _) (Nat.le_refl _) ?_ (by omega) (by omega) (by omega) (by omega) (by omega)
          refine dm_EO_b (y := z) (c0 := c) (Le := fun x => if x = y then d + 1 else L e x) (bs := fun x => if x = y then m d else bo (s * 8 + x)) ?_ hc (fun x hx => ?_) (fun x hx => ?_)
          · refine dm_EO_b (y := y) (c0 := d) (Le := L e) (bs := fun x => bo (s * 8 + x)) ?_ hd (fun x hx => rfl) (fun x hx => rfl)
            exact dm_EO_w EO (fun x hx hw => ⟨hw.1.1, dm_nbr k15 ey ez hx hy hz hw.2 hw.1.2⟩)
          · rw [dm_Ls_n, dm_Ls_n]
          · rw [dm_b1_in, dm_b1_in, dm_cp_in hx, qv, qX]
        · obtain ⟨X, W1⟩ := dm_Wd_unit (bo' := vp_updL (dm_cp bo s (un + 1) 8) ((un + 1) * 8 + y) cv) (pF' := pF) (pS' := pS) (cT' := cT) (cB' := cB) W hu (fun k hk => by rw [dm_b1_lo hk, dm_cp_lo hk]) (fun _ _ => rfl) (fun _ _ => rfl) (fun _ _ => rfl) (fun _ _ => rfl)
          obtain ⟨X2, W3⟩ := dm_Wd_env W1 hy hc he (by omega)
          have X3 := dm_Ex_t X X2
          have St2 := dm_St_x (fN' := upd fN (j + 1) (nI (l + 1))) (fS' := upd (upd fS j 3) (j + 1) 0) (fE' := upd fE (j + 1) (nI ep)) (fV' := upd fV (j + 1) (-1)) (wN' := wN) (wF' := upd wF w 2) (wB' := wB) (wV' := wV) X3 j w a p (fun q hq => ⟨pk_un (by omega), by rw [pk_un (by omega), pk_un (by omega)], pk_un (by omega), pk_un (by omega)⟩) (fun q hq => ⟨rfl, pk_un (by omega), rfl, rfl⟩) St
          refine dm_G_s (fun post m h => x_lF (by omega) (x_r_app (by omega) qW (by omega) qF qK (x_a0 (z := 0) (by rw [hk2, k3]) ed (by omega) hu b2 hd3 d2 t6 (by omega) qL (by omega) t7 hs ey hy (fun g => absurd g k15) (by omega) (fun _ => x_7E h) (fun g => absurd g k15)))) (fun post m h => y_l (by omega) (by omega) (y_s_app (by omega) (by omega) qN qS rfl qV qK (y_a0f (z := 0) (by omega) (by omega) hd4 k3 hu b2 hd3 d2 (by omega) t4 t5 k15 ey (fun g => absurd g k15) (by omega) (y_7 h)))) ?_
          refine hE _ _ (p + 1) (ep + 1) W3 ⟨i, hi, by rw [pk_un (by omega), qN], Or.inr (Or.inl ⟨w, a, p, rfl, rfl, rfl, qK, by rw [pk_un (by omega), pk_us], qW, pk_us, hpos, St2⟩)⟩ hl1 pk_us pk_us (by rw [pk_us, dm_eIs]) (Nat.le_refl _) (Nat.le_refl _) ?_ (by omega) (by omega) (by omega) (by omega) (by omega)
          refine dm_EO_b (y := y) (c0 := c) (Le := L e) (bs := fun x => bo (s * 8 + x)) ?_ hc (fun x hx => dm_Ls_n) (fun x hx => ?_)
          · exact dm_EO_w EO (fun x hx hw => ⟨hw.1, dm_nbf k15 ey hx hy hw.2⟩)
          · rw [dm_b1_in, dm_cp_in hx, qv]
      · have ea : a = D := by omega
        subst ea
        refine dm_G_e (by omega) (fun k => ?_) (fun post m h => x_lF (by omega) (x_r_app (by omega) qW (by omega) qF qK (x_a13 (by rw [hk2, k3]) hu b2 (x_7e (by decide) h)))) (fun post m h => y_l (by omega) (by omega) (y_s_app (by omega) (by omega) qN qS rfl qV qK (y_a13 hd4 k3 hu b2 (y_7e (by decide) h))))
        exact ⟨_, _, n, rfl, rfl, rfl, rfl, rfl, rfl, rfl, rfl, rfl, rfl, rfl, rfl, rfl, rfl, b1, b2, d1, d2, P, Or.inr ⟨rfl, rfl, C, Or.inl ⟨rfl, rfl⟩⟩⟩
    · have eu : un = B := by omega
      subst eu
      refine dm_G_e (by omega) (fun k => ?_) (fun post m h => x_lF (by omega) (x_r_app (by omega) qW (by omega) qF qK (x_a12 (by rw [hk2, k3]) (x_7e (by decide) h)))) (fun post m h => y_l (by omega) (by omega) (y_s_app (by omega) (by omega) qN qS rfl qV qK (y_a12 hd4 k3 (y_7e (by decide) h))))
      exact ⟨_, _, n, rfl, rfl, rfl, rfl, rfl, rfl, rfl, rfl, rfl, rfl, rfl, rfl, rfl, rfl, b1, b2, d1, d2, P, Or.inr ⟨rfl, rfl, C, Or.inl ⟨rfl, rfl⟩⟩⟩
  · refine dm_G_e (by omega) (fun k => ?_) (fun post m h => x_lF (by omega) (x_r_app (by omega) qW (by omega) qF qK (x_a9 (by rw [hk2]; exact k3) (x_7e (by decide) h)))) (fun post m h => y_l (by omega) (by omega) (y_s_app (by omega) (by omega) qN qS rfl qV qK (y_a9 hd4 k3 (y_7e (by decide) h))))
    exact ⟨_, _, n, rfl, rfl, rfl, rfl, rfl, rfl, rfl, rfl, rfl, rfl, rfl, rfl, rfl, rfl, b1, b2, d1, d2, P, Or.inr ⟨rfl, rfl, C, Or.inl ⟨rfl, rfl⟩⟩⟩
end
end
section
/-! run -/
section
variable {kd na nb se fn tg tn : Nat → Int32} {n B D : Nat}
theorem sE_all {K : Nat} (X0 : dm_Fx kd na nb se fn tg tn n B D) (hE : dm_SE kd na nb se fn tg tn n B D K) (hF : dm_SF kd na nb se fn tg tn n B D K) : dm_SE kd na nb se fn tg tn n B D (K + 1) := by
  intro m L p e oc pk yo rt cv pF pS cT cB bo wN wF wB wV vK vA vB eN eV eX fN fS fE fV hp ep un a w j gX gY i s W St hi qN qS qE he hs EO hpos ha hpot gx gy
  obtain ⟨q, q1, q2, ek⟩ := dm_Pgk X0.1 hi
  by_cases k1 : kd i = 1
  · exact sE_num X0 W St hi qN qS qE he hs EO hpos ha hpot gx gy hF k1
  by_cases k2 : kd i = 2
  · exact sE_var X0 W St hi qN qS qE he hs EO hpos ha hpot gx gy hF k2
  by_cases k13 : kd i = 13
  · exact sE_fun X0 W St hi qN qS qE he hs EO hpos ha hpot gx gy hF k13
  by_cases k15 : kd i = 15
  · exact sE_rec X0 W St hi qN qS qE he hs EO hpos ha hpot gx gy hE k15
  refine sE_oth X0 W St hi qN qS qE he hs EO hpos ha hpot gx gy hE ?_
  rw [ek] at k1 k2 k13 k15 ⊢
  rcases (show q = 1 ∨ q = 2 ∨ q = 3 ∨ q = 4 ∨ q = 5 ∨ q = 6 ∨ q = 7 ∨ q = 8 ∨ q = 9 ∨ q = 10 ∨ q = 11 ∨ q = 12 ∨ q = 13 ∨ q = 14 ∨ q = 15 ∨ q = 16 by omega) with rfl | rfl | rfl | rfl | rfl | rfl | rfl | rfl | rfl | rfl | rfl | rfl | rfl | rfl | rfl | rfl
  · exact absurd rfl k1
  · exact absurd rfl k2
  · exact Or.inl rfl
  · exact Or.inr (Or.inl rfl)
  · exact Or.inr (Or.inr (Or.inl rfl))
  · exact Or.inr (Or.inr (Or.inr (Or.inl rfl)))
  · exact Or.inr (Or.inr (Or.inr (Or.inr (Or.inl rfl))))
  · exact Or.inr (Or.inr (Or.inr (Or.inr (Or.inr (Or.inl rfl)))))
  · exact Or.inr (Or.inr (Or.inr (Or.inr (Or.inr (Or.inr (Or.inl rfl))))))
  · exact Or.inr (Or.inr (Or.inr (Or.inr (Or.inr (Or.inr (Or.inr (Or.inl rfl)))))))
  · exact Or.inr (Or.inr (Or.inr (Or.inr (Or.inr (Or.inr (Or.inr (Or.inr (Or.inl rfl))))))))
  · exact Or.inr (Or.inr (Or.inr (Or.inr (Or.inr (Or.inr (Or.inr (Or.inr (Or.inr (Or.inl rfl)))))))))
  · exact absurd rfl k13
  · exact Or.inr (Or.inr (Or.inr (Or.inr (Or.inr (Or.inr (Or.inr (Or.inr (Or.inr (Or.inr (Or.inl rfl))))))))))
  · exact absurd rfl k15
  · exact Or.inr (Or.inr (Or.inr (Or.inr (Or.inr (Or.inr (Or.inr (Or.inr (Or.inr (Or.inr (Or.inr (rfl)))))))))))
theorem sF_all {K : Nat} (X0 : dm_Fx kd na nb se fn tg tn n B D) (hE : dm_SE kd na nb se fn tg tn n B D K) (hF : dm_SF kd na nb se fn tg tn n B D K) : dm_SF kd na nb se fn tg tn n B D (K + 1) := by
  intro m L p c pk cn cb yo cv pF pS cT cB bo wN wF wB wV vK vA vB eN eV eX fN fS fE fV hp ep un a w j gX gY W St hc qv ha hpot gx gy
  cases j with
  | zero =>
    obtain ⟨rfl, rfl, rfl⟩ := St
    obtain ⟨P, C, b1, b2, d1, d2⟩ := X0
    have hun := W.2.2.2
    refine ⟨0, (nI B, nI D, nI n, nI (dm_O kd n), 1, nI (dm_cnt kd n), 0, nI un, nI 0, pk, cv, nI 0, 0, cn, cb, cv, kd, na, nb, se, fn, tg, tn, pF, pS, cT, cB, bo, wN, wF, wB, wV), (nI B, nI D, nI n, 1, 0, nI un, nI 0, pk, nI c, nI hp, nI ep, nI 0, 0, nI c, kd, na, nb, vK, vA, vB, eN, eV, eX, fN, fS, fE, fV), fun k => ?_, fun post h q hq => ?_, fun post h q hq => ?_⟩
    rotate_left
    · obtain ⟨q, rfl⟩ : ∃ t, q = t + 1 := ⟨q - 1, by omega⟩
      exact x_end h
    · obtain ⟨q, rfl⟩ : ∃ t, q = t + 1 := ⟨q - 1, by omega⟩
      exact y_end h
    · exact ⟨B, D, n, rfl, rfl, rfl, rfl, rfl, rfl, rfl, rfl, rfl, rfl, rfl, rfl, rfl, rfl, b1, b2, d1, d2, P, Or.inr ⟨rfl, rfl, C, Or.inr ⟨hp, m, c, by omega, hc, qv, rfl, fun c hc => dm_HC_R (by omega) (W.1 c hc)⟩⟩⟩
  | succ j =>
    obtain ⟨i, hi, qN, St⟩ := St
    rcases St with ⟨p', h1, h2, rfl, h4⟩ | ⟨w', a', p', rfl, rfl, rfl, h4, h5, h6, h7, h8, h9⟩ | ⟨w', p', e, s, rfl, rfl, h3, h4, h5, h6, h7, h8, h9, h10, h11, h12, h13⟩ | ⟨w', p', d, rfl, rfl, h3, h4, h5, h6, h7, h8, h9, h10, h11⟩
    · exact sF_T X0 W hi qN hc qv ha hpot gx gy h4 h1 h2 hF
    · exact sF_B X0 W hi qN hc qv ha hpot gx gy h9 h4 h5 h6 h7 h8 hF
    · rcases h4 with k | k | k | k | k | k | k | k | k | k | k | k
      · exact sF_one X0 W hi qN hc qv ha hpot gx gy h13 h3 h5 h6 h7 h8 h9 h10 h11 h12 (Or.inl k) hE
      · exact sF_one X0 W hi qN hc qv ha hpot gx gy h13 h3 h5 h6 h7 h8 h9 h10 h11 h12 (Or.inr (Or.inl k)) hE
      · exact sF_one X0 W hi qN hc qv ha hpot gx gy h13 h3 h5 h6 h7 h8 h9 h10 h11 h12 (Or.inr (Or.inr (Or.inl k))) hE
      · exact sF_one X0 W hi qN hc qv ha hpot gx gy h13 h3 h5 h6 h7 h8 h9 h10 h11 h12 (Or.inr (Or.inr (Or.inr (Or.inl k)))) hE
      · exact sF_one X0 W hi qN hc qv ha hpot gx gy h13 h3 h5 h6 h7 h8 h9 h10 h11 h12 (Or.inr (Or.inr (Or.inr (Or.inr (Or.inl k))))) hE
      · exact sF_one X0 W hi qN hc qv ha hpot gx gy h13 h3 h5 h6 h7 h8 h9 h10 h11 h12 (Or.inr (Or.inr (Or.inr (Or.inr (Or.inr (Or.inl k)))))) hE
      · exact sF_if X0 W hi qN hc qv ha hpot gx gy h13 h3 h5 h6 h7 h8 h9 h10 h11 h12 k hE
      · exact sF_one X0 W hi qN hc qv ha hpot gx gy h13 h3 h5 h6 h7 h8 h9 h10 h11 h12 (Or.inr (Or.inr (Or.inr (Or.inr (Or.inr (Or.inr (Or.inl k))))))) hE
      · exact sF_fst X0 W hi qN hc qv ha hpot gx gy h13 h3 h5 h6 h7 h8 h9 h10 h11 h12 k hF
      · exact sF_snd X0 W hi qN hc qv ha hpot gx gy h13 h3 h5 h6 h7 h8 h9 h10 h11 h12 k hF
      · exact sF_let X0 W hi qN hc qv ha hpot gx gy h13 h3 h5 h6 h7 h8 h9 h10 h11 h12 k hE
      · exact sF_one X0 W hi qN hc qv ha hpot gx gy h13 h3 h5 h6 h7 h8 h9 h10 h11 h12 (Or.inr (Or.inr (Or.inr (Or.inr (Or.inr (Or.inr (Or.inr (k)))))))) hE
    · rcases h4 with k | k | k | k | k | k | k | k
      · exact sF_bin X0 W hi qN hc qv ha hpot gx gy h11 h3 h5 h6 h7 h8 h9 h10 (Or.inl k) hF
      · exact sF_bin X0 W hi qN hc qv ha hpot gx gy h11 h3 h5 h6 h7 h8 h9 h10 (Or.inr (Or.inl k)) hF
      · exact sF_bin X0 W hi qN hc qv ha hpot gx gy h11 h3 h5 h6 h7 h8 h9 h10 (Or.inr (Or.inr (Or.inl k))) hF
      · exact sF_bin X0 W hi qN hc qv ha hpot gx gy h11 h3 h5 h6 h7 h8 h9 h10 (Or.inr (Or.inr (Or.inr (Or.inl k)))) hF
      · exact sF_bin X0 W hi qN hc qv ha hpot gx gy h11 h3 h5 h6 h7 h8 h9 h10 (Or.inr (Or.inr (Or.inr (Or.inr (Or.inl k))))) hF
      · exact sF_bin X0 W hi qN hc qv ha hpot gx gy h11 h3 h5 h6 h7 h8 h9 h10 (Or.inr (Or.inr (Or.inr (Or.inr (Or.inr (k)))))) hF
      · exact sF_pair X0 W hi qN hc qv ha hpot gx gy h11 h3 h5 h6 h7 h8 h9 h10 k hF
      · exact sF_app X0 W hi qN hc qv ha hpot gx gy h11 h3 h5 h6 h7 h8 h9 h10 k hE
theorem sim_all (X0 : dm_Fx kd na nb se fn tg tn n B D) : ∀ K, dm_SE kd na nb se fn tg tn n B D K ∧ dm_SF kd na nb se fn tg tn n B D K := by
  intro K
  induction K with
  | zero =>
    refine ⟨?_, ?_⟩
    · intro m L p e oc pk yo rt cv pF pS cT cB bo wN wF wB wV vK vA vB eN eV eX fN fS fE fV hp ep un a w j gX gY i s W St hi qN qS qE he hs EO hpos ha hpot
      omega
    · intro m L p c pk cn cb yo cv pF pS cT cB bo wN wF wB wV vK vA vB eN eV eX fN fS fE fV hp ep un a w j gX gY W St hc qv ha hpot
      omega
  | succ K ih => exact ⟨sE_all X0 ih.1 ih.2, sF_all X0 ih.1 ih.2⟩
end
theorem x_run {post : Int32 → SX → Prop} {xB xD xn xo xl oc : Int32} {cv : Int64} {kd na nb se fn tg tn cT cB wN wF wB : Nat → Int32} {pF pS bo wV : Nat → Int64} {xu xa pk xw en cn cb : Int32} {xr : Int64} (h : ∃ m, dm_LX post m 0 0 (xB, xD, xn, xo, 1, xl, oc, 0, 0, 0, 0, 0, 1, 0, 0, cv, kd, na, nb, se, fn, tg, tn, pF, pS, cT, cB, bo, wN, wF, wB, wV)) : wpX_run post (xB, xD, xn, xo, 1, xl, oc, xu, xa, pk, xr, xw, en, cn, cb, cv, kd, na, nb, se, fn, tg, tn, pF, pS, cT, cB, bo, wN, wF, wB, wV) := by
  unfold wpX_run
  refine br_f (by decide) ?_
  unfold wpX_startRun
  exact h
theorem y_run {post : Int32 → SY → Prop} {yB yD yn yo yu ya yp yr yh ye ys er rt : Int32} {kd na nb vK vA vB eN eV eX fN fS fE fV : Nat → Int32} (h : ∃ m, dm_LY post m 0 (yB, yD, yn, 1, yo, 0, 0, 0, -1, 0, 0, nI (0 + 1), 0, -1, kd, na, nb, vK, vA, vB, eN, eV, eX, upd fN 0 (nI 0), upd fS 0 0, upd fE 0 (-1), upd fV 0 (-1))) : wpY_run post (yB, yD, yn, 1, yo, yu, ya, yp, yr, yh, ye, ys, er, rt, kd, na, nb, vK, vA, vB, eN, eV, eX, fN, fS, fE, fV) := by
  unfold wpY_run
  refine br_f (by decide) ?_
  exact y_push (sp := 0) (c := 0) (by omega) (by omega) h
theorem i_vc_run {k : Nat} {u : SX} {v : SY} (I : i_Rel k u v) (hk : k + 4 ≤ 2050) : wpX_run (fun r u' => wpY_run (fun r' v' => r' = r ∧ i_Rel (k + 4) u' v') v) u := by
  have J := I
  obtain ⟨xB, xD, xn, xo, xc, xl, oc, xu, xa, pk, xr, xw, en, cn, cb, cv, kd, na, nb, se, fn, tg, tn, pF, pS, cT, cB, bo, wN, wF, wB, wV⟩ := u
  obtain ⟨yB, yD, yn, yc, yo, yu, ya, yp, yr, yh, ye, ys, er, rt, yk, ym, yb, vK, vA, vB, eN, eV, eX, fN, fS, fE, fV⟩ := v
  obtain ⟨B, D, n, rfl, rfl, rfl, rfl, rfl, rfl, rfl, rfl, rfl, rfl, rfl, rfl, rfl, rfl, b1, b2, d1, d2, P, R⟩ := I
  rcases R with ⟨rfl, rfl, rfl, rfl⟩ | ⟨rfl, rfl, C, R⟩
  · exact br_t rfl (br_t rfl ⟨rfl, J⟩)
  · have T : dm_Tr yk n := ⟨P.2.1, C.1⟩
    have hn := P.1
    have hpos := dm_Tr_pos T
    have hE0 := dm_E_0 T
    have X0 : dm_Fx yk ym yb se fn tg tn n B D := ⟨P, C, b1, b2, d1, d2⟩
    have W : dm_Wd yk ym yb fn n B 0 0 0 (fun _ => 0) (fun _ _ => 0) bo vK vA vB pF pS cT cB eN eV eX := ⟨fun c hc => absurd hc (Nat.not_lt_zero c), ⟨fun _ => rfl, fun j hj => absurd hj (Nat.not_lt_zero j)⟩, Nat.zero_le _, Nat.zero_le _⟩
    have EO : dm_EO 0 (fun _ => (0 : Int64)) ((fun _ _ => 0 : Nat → Nat → Nat) 0) (fun x => bo (0 * 8 + x)) (fun x => bt (fn 0) x = true) := by
      intro x hx hw
      rw [C.2.2.2.1, b_0] at hw
      exact absurd hw (by decide)
    have G : dm_G 16641 0 0 0 (nI B, nI D, nI n, nI (dm_O yk n), 1, nI (dm_cnt yk n), yo, nI 0, nI 0, 0, 0, nI 0, 1, nI 0, nI 0, cv, yk, ym, yb, se, fn, tg, tn, pF, pS, cT, cB, bo, wN, wF, wB, wV) (nI B, nI D, nI n, 1, yo, nI 0, nI 0, 0, -1, nI 0, nI 0, nI (0 + 1), 0, -1, yk, ym, yb, vK, vA, vB, eN, eV, eX, upd fN 0 (nI 0), upd fS 0 0, upd fE 0 (-1), upd fV 0 (-1)) := by
      refine (sim_all X0 16641).1 (fun _ => 0) (fun _ _ => 0) 0 0 W ⟨rfl, rfl, rfl⟩ hpos pk_us pk_us (by rw [pk_us, dm_eI0]) (Nat.le_refl _) (Nat.le_refl _) EO (by omega) (by omega) ?_ (by omega) (by omega)
      rw [hE0]
      omega
    obtain ⟨oc, u', v', R', hX, hY⟩ := G
    refine x_run ⟨16641, hX _ ?_ 16641 (Nat.le_refl _)⟩
    exact y_run ⟨16641, hY _ ⟨rfl, R' _⟩ 16641 (Nat.le_refl _)⟩
end
section
/-! resultKind, resultValue -/
def dm_RV (hp : Nat) (m : Nat → Int64) (xv : Int64) (yv : Int32) : Prop := (xv = 0 ∧ yv = -1) ∨ ∃ c, c < hp ∧ xv = m c ∧ yv = nI c
section
variable {kd : Nat → Int32} {n c : Nat} {m : Nat → Int64} {vK vA vB : Nat → Int32} {pF pS : Nat → Int64} {cT : Nat → Int32}
theorem dm_RC_k (h : dm_RC kd n m vK vA vB pF pS cT c) : dm_kof (m c) = vK c := by
  rcases h with ⟨h1, h2⟩ | ⟨h1, p, a, b, h2, h3, h4, h5, h6⟩ | ⟨h1, p, l, h2, h3, h4, h5, h6⟩
  · rw [h1, h2, dm_val_k]
  · rw [h1, h5, dm_val_k]
  · rw [h1, h4, dm_val_k]
end
section
variable {xB xD xn xo xc xl oc xu xa pk xw en cn cb : Int32} {xr cv : Int64} {na nb se fn tg tn cT cB wN wF wB : Nat → Int32} {pF pS bo wV : Nat → Int64} {yB yD yc yo yu ya yp yr yh ye ys er rt : Int32} {vK vA vB eN eV eX fN fS fE fV : Nat → Int32} {kd : Nat → Int32} {ym yb : Nat → Int32} {n hp : Nat} {m : Nat → Int64}
theorem x_w0 {post : Int64 → Prop} {x2 : Int32} {t q f : Nat} (ht : t ≤ 16) (hq : q ≤ t) (h : post 0) : wX_walkResult_20 post (nI t) x2 xB xD xn xo xc xl oc xu xa pk xr xw en cn cb cv kd na nb se fn tg tn pF pS cT cB bo wN wF wB wV (f + 1) 0 (nI q) := by
  by_cases e : t ≤ q
  · exact br_t (nI_le e (by omega)) h
  · exact br_f (nI_ge (by omega) (by omega)) (br_f (by decide) h)
theorem dm_wlk {x2 : Int32} {t : Nat} (ht : t ≤ 16) (hhp : hp ≤ 4096) (R : ∀ c, c < hp → dm_RC kd n m vK vA vB pF pS cT c) : ∀ d q c, q + d = t → c < hp → ∃ xv yv, dm_RV hp m xv yv ∧ (∀ post : Int64 → Prop, post xv → wX_walkResult_20 post (nI t) x2 xB xD xn xo xc xl oc xu xa pk xr xw en cn cb cv kd na nb se fn tg tn pF pS cT cB bo wN wF wB wV (d + 1) (m c) (nI q)) ∧ (∀ post : Int32 → Prop, post yv → wY_walk_27 post (nI t) x2 yB yD (nI n) yc yo yu ya yp yr yh ye ys er rt kd ym yb vK vA vB eN eV eX fN fS fE fV (d + 1) (nI c) (nI q)) := by
  intro d
  induction d with
  | zero =>
    intro q c hq hc
    have e : q = t := by omega
    subst e
    exact ⟨m c, nI c, Or.inr ⟨c, hc, rfl, rfl⟩, fun post h => br_t (nI_le (Nat.le_refl _) (by omega)) h, fun post h => br_t (nI_le (Nat.le_refl _) (by omega)) h⟩
  | succ d ih =>
    intro q c hq hc
    have hc4 : c < 4096 := by omega
    have hk := dm_RC_k (R c hc)
    have hg : ¬ nI t ≤ nI q := nI_ge (by omega) (by omega)
    by_cases k2 : vK c = 2
    · rcases R c hc with ⟨h1, _⟩ | ⟨h1, p, a, b, h2, h3, h4, h5, h6, h7, h8, h9⟩ | ⟨h1, _⟩
      · rw [k2] at h1
        exact absurd h1 (by decide)
      · have ed : (m c).toInt32 = nI p := by
          rw [h5, dm_val_d]
        have ep1 : ∀ g : Nat → Int64, g (m c).toInt32.toNatClampNeg = g p := by
          intro g
          rw [ed, nI_clamp (by omega)]
        have hin : vp_in (m c).toInt32 65 := by
          rw [ed]
          exact dm_w65 (by omega)
        obtain ⟨xa1, ya1, r1, r2, r3⟩ := ih (q + 1) a (by omega) (by omega)
        obtain ⟨xb1, yb1, s1, s2, s3⟩ := ih (q + 1) b (by omega) (by omega)
        by_cases z : ((x2.toUInt32 >>> ((nI q).toUInt32 &&& Int32.toUInt32 31)).toInt32 &&& 1) = 0
        · refine ⟨xa1, ya1, r1, fun post h => ?_, fun post h => ?_⟩
          · refine br_f hg (br_t (by rw [← k2]; exact hk) (br_t z ⟨hin, nm_r ?_ (nm_r (nI_1 q) (r2 post h))⟩))
            rw [ep1 pF, h8]
          · refine br_f hg (y_kof hc4 (br_t k2 (br_t z (y_vA hc4 (nm_r (nI_1 q) ?_)))))
            rw [h6]
            exact r3 post h
        · refine ⟨xb1, yb1, s1, fun post h => ?_, fun post h => ?_⟩
          · refine br_f hg (br_t (by rw [← k2]; exact hk) (br_f z ⟨hin, nm_r ?_ (nm_r (nI_1 q) (s2 post h))⟩))
            rw [ep1 pS, h9]
          · refine br_f hg (y_kof hc4 (br_t k2 (br_f z (y_vB hc4 (nm_r (nI_1 q) ?_)))))
            rw [h7]
            exact s3 post h
      · rw [k2] at h1
        exact absurd h1 (by decide)
    · refine ⟨0, -1, Or.inl ⟨rfl, rfl⟩, fun post h => br_f hg (br_f (fun g => k2 (hk.symm.trans g)) h), fun post h => br_f hg (y_kof hc4 (br_f k2 h))⟩
theorem dm_wlk2 {v1 v2 : Int32} (R : dm_RR kd n xr yr vK vA vB pF pS cT) : ∃ (hp : Nat) (m : Nat → Int64) (xv : Int64) (yv : Int32), hp ≤ 4096 ∧ (∀ c, c < hp → dm_RC kd n m vK vA vB pF pS cT c) ∧ dm_RV hp m xv yv ∧ (∀ post : Int64 → Prop, post xv → wpX_walkResult post (xB, xD, xn, xo, xc, xl, oc, xu, xa, pk, xr, xw, en, cn, cb, cv, kd, na, nb, se, fn, tg, tn, pF, pS, cT, cB, bo, wN, wF, wB, wV) v1 v2) ∧ (∀ post : Int32 → Prop, post yv → wpY_walk post (yB, yD, nI n, yc, yo, yu, ya, yp, yr, yh, ye, ys, er, rt, kd, ym, yb, vK, vA, vB, eN, eV, eX, fN, fS, fE, fV) v1 v2) := by
  rcases R with ⟨rfl, rfl⟩ | ⟨hp, m, c, h1, h2, rfl, rfl, h3⟩
  · refine ⟨0, fun _ => 0, 0, -1, Nat.zero_le _, fun c hc => absurd hc (Nat.not_lt_zero c), Or.inl ⟨rfl, rfl⟩, fun post h => ?_, fun post h => br_t (by decide) h⟩
    by_cases g : v1 < 0
    · exact br_t g h
    · refine br_f g ?_
      obtain ⟨t, ht, rfl⟩ := nI_of g
      by_cases g2 : t ≤ 16
      · exact br_t (nI_le (b := 16) g2 (by omega)) ⟨0 + 1, x_w0 (q := 0) g2 (Nat.zero_le _) h⟩
      · exact br_f (nI_ge (a := 16) (by omega) ht) h
  · have hr : ¬ nI c < 0 := nI_pos (by omega)
    by_cases g : v1 < 0
    · exact ⟨hp, m, 0, -1, h1, h3, Or.inl ⟨rfl, rfl⟩, fun post h => br_t g h, fun post h => br_f hr (br_t g h)⟩
    · obtain ⟨t, ht, rfl⟩ := nI_of g
      by_cases g2 : t ≤ 16
      · obtain ⟨xv, yv, r1, r2, r3⟩ := dm_wlk (x2 := v2) g2 h1 h3 t 0 c (by omega) h2
        have g3 : nI t ≤ 16 := nI_le (b := 16) g2 (by omega)
        exact ⟨hp, m, xv, yv, h1, h3, r1, fun post h => br_f g (br_t g3 ⟨t + 1, r2 post h⟩), fun post h => br_f hr (br_f g (br_t g3 ⟨t + 1, r3 post h⟩))⟩
      · have g3 : ¬ nI t ≤ 16 := nI_ge (a := 16) (by omega) ht
        exact ⟨hp, m, 0, -1, h1, h3, Or.inl ⟨rfl, rfl⟩, fun post h => br_f g (br_f g3 h), fun post h => br_f hr (br_f g (br_f g3 h))⟩
theorem y_tg4 {post : Int32 → Prop} {l : Nat} (hn : n ≤ 32) (hl : l < n) (h : post (nI (dm_cnt kd l))) : ∀ d k, k + d = l → wY_tagOf_4 post (nI l) yB yD (nI n) yc yo yu ya yp yr yh ye ys er rt kd ym yb vK vA vB eN eV eX fN fS fE fV (d + 1) (nI (dm_cnt kd k)) (nI k) := by
  intro d
  induction d with
  | zero =>
    intro k hk
    have e : k = l := by omega
    subst e
    exact br_t (nI_le (Nat.le_refl _) (by omega)) h
  | succ d ih =>
    intro k hk
    refine br_f (nI_ge (by omega) (by omega)) (br_f (nI_ge (by omega) (by omega)) (y_isL (by omega) (fun z => ?_) (fun z => ?_)))
    · refine br_f (by decide) (nm_r (nI_1 _) (nm_r (nI_1 k) ?_))
      rw [← dm_cnt_t z]
      exact ih (k + 1) (by omega)
    · refine br_t rfl (nm_r (nI_1 k) ?_)
      rw [← dm_cnt_f z]
      exact ih (k + 1) (by omega)
theorem y_tg {post : Int32 → Prop} {l : Nat} (hn : n ≤ 32) (hl : l < n) (h : post (nI (dm_cnt kd l))) : wpY_tagOf post (yB, yD, nI n, yc, yo, yu, ya, yp, yr, yh, ye, ys, er, rt, kd, ym, yb, vK, vA, vB, eN, eV, eX, fN, fS, fE, fV) (nI l) :=
  ⟨l + 1, y_tg4 hn hl h l 0 (by omega)⟩
end
theorem dm_RR_of {kd na nb se fn tg tn : Nat → Int32} {n : Nat} {xc xl : Int32} {xr : Int64} {yr : Int32} {vK vA vB : Nat → Int32} {pF pS : Nat → Int64} {cT : Nat → Int32} (R : (xc = 0 ∧ xl = 0 ∧ xr = 0 ∧ yr = -1) ∨ (xc = 1 ∧ xl = nI (dm_cnt kd n) ∧ dm_Cp kd na nb se fn tg tn n ∧ dm_RR kd n xr yr vK vA vB pF pS cT)) : dm_RR kd n xr yr vK vA vB pF pS cT := by
  rcases R with ⟨_, _, h1, h2⟩ | ⟨_, _, _, h⟩
  · exact Or.inl ⟨h1, h2⟩
  · exact h
theorem i_vc_resultKind {k : Nat} {u : SX} {v : SY} (I : i_Rel k u v) (hk : k + 4 ≤ 2050) (v1 : Int32) (v2 : Int32) : wpX_resultKind (fun r => wpY_resultKind (fun r' => r' = r ∧ i_Rel (k + 4) u v) v v1 v2) u v1 v2 := by
  have J := I
  obtain ⟨xB, xD, xn, xo, xc, xl, oc, xu, xa, pk, xr, xw, en, cn, cb, cv, kd, na, nb, se, fn, tg, tn, pF, pS, cT, cB, bo, wN, wF, wB, wV⟩ := u
  obtain ⟨yB, yD, yn, yc, yo, yu, ya, yp, yr, yh, ye, ys, er, rt, yk, ym, yb, vK, vA, vB, eN, eV, eX, fN, fS, fE, fV⟩ := v
  obtain ⟨B, D, n, rfl, rfl, rfl, rfl, rfl, rfl, rfl, rfl, rfl, rfl, rfl, rfl, rfl, rfl, b1, b2, d1, d2, P, R⟩ := I
  obtain ⟨hp, m, xv, yv, h1, h2, h3, hX, hY⟩ := dm_wlk2 (v1 := v1) (v2 := v2) (dm_RR_of R)
  unfold wpX_resultKind
  refine hX _ ?_
  unfold wpX_kindOf wpY_resultKind
  refine hY _ ?_
  rcases h3 with ⟨rfl, rfl⟩ | ⟨c, hc, rfl, rfl⟩
  · exact br_f (by decide) ⟨dm_kof0.symm, J⟩
  · exact br_t (nI_pos' (by omega)) (y_kof (by omega) ⟨(dm_RC_k (h2 c hc)).symm, J⟩)
theorem i_vc_resultValue {k : Nat} {u : SX} {v : SY} (I : i_Rel k u v) (hk : k + 4 ≤ 2050) (v1 : Int32) (v2 : Int32) : wpX_resultValue (fun r => wpY_resultValue (fun r' => r' = r ∧ i_Rel (k + 4) u v) v v1 v2) u v1 v2 := by
  have J := I
  obtain ⟨xB, xD, xn, xo, xc, xl, oc, xu, xa, pk, xr, xw, en, cn, cb, cv, kd, na, nb, se, fn, tg, tn, pF, pS, cT, cB, bo, wN, wF, wB, wV⟩ := u
  obtain ⟨yB, yD, yn, yc, yo, yu, ya, yp, yr, yh, ye, ys, er, rt, yk, ym, yb, vK, vA, vB, eN, eV, eX, fN, fS, fE, fV⟩ := v
  obtain ⟨B, D, n, rfl, rfl, rfl, rfl, rfl, rfl, rfl, rfl, rfl, rfl, rfl, rfl, rfl, rfl, b1, b2, d1, d2, P, R⟩ := I
  have hn := P.1
  obtain ⟨hp, m, xv, yv, h1, h2, h3, hX, hY⟩ := dm_wlk2 (v1 := v1) (v2 := v2) (dm_RR_of R)
  have Yw : ∀ post : Int32 → Prop, (yv = -1 → post 0) → (∀ c, c < hp → yv = nI c → vK c = 1 → post (vA c)) → (∀ c, c < hp → yv = nI c → vK c = 2 → post 0) → (∀ c l, c < hp → yv = nI c → vK c = 3 → vA c = nI l → l < n → post (nI (dm_cnt yk l))) → wpY_resultValue post (nI B, nI D, nI n, yc, yo, yu, ya, yp, yr, yh, ye, ys, er, rt, yk, ym, yb, vK, vA, vB, eN, eV, eX, fN, fS, fE, fV) v1 v2 := by
    intro post p0 p1 p2 p3
    unfold wpY_resultValue
    refine hY _ ?_
    rcases h3 with ⟨_, rfl⟩ | ⟨c, hc, _, rfl⟩
    · exact br_t (by decide) (br_f (by decide) (br_f (by decide) (p0 rfl)))
    · have hc4 : c < 4096 := by omega
      refine y_kof hc4 ?_
      rcases h2 c hc with ⟨t1, _⟩ | ⟨t1, _⟩ | ⟨t1, p, l, t2, t3, t4, t5, t6⟩
      · exact br_t t1 (y_vA hc4 (p1 c hc rfl t1))
      · exact br_f (by rw [t1]; decide) (br_f (by rw [t1]; decide) (p2 c hc rfl t1))
      · refine br_f (by rw [t1]; decide) (br_t t1 (y_vA hc4 ?_))
        rw [t5]
        exact y_tg hn t3 (p3 c l hc rfl t1 t5 t3)
  unfold wpX_resultValue
  refine hX _ ?_
  rcases h3 with ⟨rfl, rfl⟩ | ⟨c, hc, rfl, rfl⟩
  · refine br_f (by decide) (br_f (by decide) (Yw _ (fun _ => ⟨rfl, J⟩) (fun c hc e => ?_) (fun c hc e => ?_) (fun c l hc e => ?_))) <;> exact absurd (e ▸ nI_pos' (n := c) (by omega) : (0 : Int32) ≤ -1) (by decide)
  · have inj : ∀ c', c' < hp → nI c = nI c' → c' = c := fun c' hc' e => ((nI_eq (by omega) (by omega)).mp e).symm
    have nm : ∀ Q : Prop, nI c = -1 → Q := fun Q e => absurd (e ▸ nI_pos' (n := c) (by omega) : (0 : Int32) ≤ -1) (by decide)
    have hkk := dm_RC_k (h2 c hc)
    rcases h2 c hc with ⟨t1, t2⟩ | ⟨t1, _⟩ | ⟨t1, p, l, t2, t3, t4, t5, t6⟩
    · refine br_t (hkk.trans t1) (Yw _ (nm _) (fun c' hc' e k1 => ?_) (fun c' hc' e k1 => ?_) (fun c' l hc' e k1 => ?_))
      · have := inj c' hc' e
        subst this
        exact ⟨by rw [t2, dm_val_d], J⟩
      · have := inj c' hc' e
        subst this
        rw [t1] at k1
        exact absurd k1 (by decide)
      · have := inj c' hc' e
        subst this
        rw [t1] at k1
        exact absurd k1 (by decide)
    · refine br_f (fun g => absurd ((hkk.trans t1).symm.trans g) (by decide)) (br_f (fun g => absurd ((hkk.trans t1).symm.trans g) (by decide)) (Yw _ (nm _) (fun c' hc' e k1 => ?_) (fun c' hc' e k1 => ⟨rfl, J⟩) (fun c' l hc' e k1 => ?_)))
      · have := inj c' hc' e
        subst this
        rw [t1] at k1
        exact absurd k1 (by decide)
      · have := inj c' hc' e
        subst this
        rw [t1] at k1
        exact absurd k1 (by decide)
    · have ed : (m c).toInt32 = nI p := by
        rw [t4, dm_val_d]
      refine br_f (fun g => absurd ((hkk.trans t1).symm.trans g) (by decide)) (br_t (hkk.trans t1) ⟨?_, ?_⟩)
      · rw [ed]
        exact dm_w65 (by omega)
      · rw [ed, nI_clamp (by omega), t6]
        refine Yw _ (nm _) (fun c' hc' e k1 => ?_) (fun c' hc' e k1 => ?_) (fun c' l' hc' e k1 e2 hl' => ⟨?_, J⟩)
        · have := inj c' hc' e
          subst this
          rw [t1] at k1
          exact absurd k1 (by decide)
        · have := inj c' hc' e
          subst this
          rw [t1] at k1
          exact absurd k1 (by decide)
        · have := inj c' hc' e
          subst this
          rw [t5] at e2
          rw [(nI_eq (by omega) (by omega)).mp e2]
end
