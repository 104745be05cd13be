theorem dm_ar_e {post : Int32 → Prop} {k : Int32} (a : Nat) (h : post (nI (dm_ar k))) (e : dm_ar k = a) : post (nI a) := e ▸ h
theorem dm_opn {o a : Nat} (h : 1 ≤ o) : nI o + (nI a - 1) = nI (o + a - 1) := by
  have e : nI o + (nI a - 1) = nI o + nI a - nI 1 := by
    show nI o + (nI a - 1) = nI o + nI a - 1
    grind
  rw [e, nI_add, pk_sub (by omega)]
def dm_kk (k : Int32) : Prop := ∃ q, 1 ≤ q ∧ q ≤ 16 ∧ k = nI q
theorem dm_kk1 {k : Int32} (h : dm_kk k) : ¬ k < 1 := by
  obtain ⟨q, h1, h2, rfl⟩ := h
  exact nI_nlt (b := 1) h1 (by omega)
theorem dm_kk16 {k : Int32} (h : dm_kk k) : ¬ 16 < k := by
  obtain ⟨q, h1, h2, rfl⟩ := h
  exact nI_nlt (a := 16) h2 (by omega)
theorem x_cc {post : Int32 → Prop} {k : Int32} (hk : dm_kk k) (h : post (nI (dm_ar k))) : wpX_childCount post () k := by
  refine br_f (dm_kk1 hk) ?_
  by_cases b : 13 < k
  · refine br_t b (dm_ar_e 2 h ?_)
    obtain ⟨q, h1, h2, rfl⟩ := hk
    have b2 : 13 < q := (nI_ltI (by omega) (by omega)).mp b
    rcases (show q = 14 ∨ q = 15 ∨ q = 16 by omega) with rfl | rfl | rfl <;> decide
  refine br_f b ?_
  by_cases c1 : k = 1
  · exact br_t c1 (dm_ar_e 0 h (by rw [c1]; decide))
  refine br_f c1 ?_
  by_cases c2 : k = 2
  · exact br_t c2 (dm_ar_e 0 h (by rw [c2]; decide))
  refine br_f c2 ?_
  by_cases c3 : k = 3
  · exact br_t c3 (dm_ar_e 2 h (by rw [c3]; decide))
  refine br_f c3 ?_
  by_cases c4 : k = 4
  · exact br_t c4 (dm_ar_e 2 h (by rw [c4]; decide))
  refine br_f c4 ?_
  by_cases c5 : k = 5
  · exact br_t c5 (dm_ar_e 2 h (by rw [c5]; decide))
  refine br_f c5 ?_
  by_cases c6 : k = 6
  · exact br_t c6 (dm_ar_e 2 h (by rw [c6]; decide))
  refine br_f c6 ?_
  by_cases c7 : k = 7
  · exact br_t c7 (dm_ar_e 2 h (by rw [c7]; decide))
  refine br_f c7 ?_
  by_cases c8 : k = 8
  · exact br_t c8 (dm_ar_e 2 h (by rw [c8]; decide))
  refine br_f c8 ?_
  by_cases c9 : k = 9
  · exact br_t c9 (dm_ar_e 3 h (by rw [c9]; decide))
  refine br_f c9 ?_
  by_cases c10 : k = 10
  · exact br_t c10 (dm_ar_e 2 h (by rw [c10]; decide))
  refine br_f c10 ?_
  by_cases c11 : k = 11
  · exact br_t c11 (dm_ar_e 1 h (by rw [c11]; decide))
  refine br_f c11 ?_
  by_cases c12 : k = 12
  · exact br_t c12 (dm_ar_e 1 h (by rw [c12]; decide))
  refine br_f c12 ?_
  by_cases c13 : k = 13
  · exact br_t c13 (dm_ar_e 1 h (by rw [c13]; decide))
  exact br_f c13 trivial
section
variable {kd na nb : Nat → Int32} {n : Nat}
theorem dm_Pgk {k : Nat} (P : dm_Pg kd na nb n) (hk : k < n) : dm_kk (kd k) := (P.2.2 k hk).1
end
theorem dm_clx (p : Int32) (M : Nat) (hM : 1 ≤ M) (hM2 : M < 1000) : ∃ j, 1 ≤ j ∧ j ≤ M ∧ ∀ A : Int32 → Prop, A (nI j) → ((1 ≤ p → ((p ≤ nI M → A p) ∧ (¬ p ≤ nI M → A (nI M)))) ∧ (¬ 1 ≤ p → A 1)) := by
  by_cases h : 1 ≤ p
  · by_cases h2 : p ≤ nI M
    · have h0 : ¬ p < 0 := Int32.not_lt.mpr (Int32.le_trans (by decide) h)
      obtain ⟨j, hj, rfl⟩ := nI_of h0
      exact ⟨j, (nI_leI (a := 1) (by omega) hj).mp h, (nI_leI hj (by omega)).mp h2, fun A a => br_t h (br_t h2 a)⟩
    · exact ⟨M, hM, Nat.le_refl _, fun A a => br_t h (br_f h2 a)⟩
  · exact ⟨1, Nat.le_refl _, hM, fun A a => br_f h a⟩
theorem dm_Pg0 (kd na nb : Nat → Int32) : dm_Pg kd na nb 0 := ⟨by omega, fun k h => absurd h (Nat.not_lt_zero k), fun k h => absurd h (Nat.not_lt_zero k)⟩
def dm_nm (x : Int32) : Prop := ¬ x < 0 ∧ ¬ 8 ≤ x
def dm_bad (k a b : Int32) : Prop := ((k = 2 ∨ k = 13 ∨ k = 14 ∨ k = 15) ∧ ¬ dm_nm a) ∨ (k = 15 ∧ ¬ dm_nm b)
theorem dm_nm_N {x : Int32} (h : dm_nm x) : ∃ y, y < 8 ∧ x = nI y := by
  obtain ⟨j, hj, rfl⟩ := nI_of h.1
  refine ⟨j, Nat.lt_of_not_le (fun z => h.2 (nI_le (a := 8) z hj)), rfl⟩
theorem x_isN {post : Int32 → Prop} {x : Int32} (h1 : dm_nm x → post 1) (h0 : ¬ dm_nm x → post 0) : wpX_isName post () x := by
  by_cases a : x < 0
  · exact br_t a (h0 (fun z => z.1 a))
  · by_cases b : 8 ≤ x
    · exact br_f a (br_t b (h0 (fun z => z.2 b)))
    · exact br_f a (br_f b (h1 ⟨a, b⟩))
theorem x_bad {post : Int32 → Prop} {k a b : Int32} (h1 : dm_bad k a b → post 1) (h0 : ¬ dm_bad k a b → post 0) : wpX_hasBadName post () k a b := by
  have one : (k = 2 ∨ k = 13 ∨ k = 14) → wX_hasBadName_44 post a := by
    intro hk
    refine x_isN (fun z => br_f (by decide) (h0 ?_)) (fun z => br_t rfl (h1 (Or.inl ⟨?_, z⟩)))
    · rintro (⟨_, g⟩ | ⟨g, _⟩)
      · exact g z
      · subst g
        rcases hk with hk | hk | hk <;> exact absurd hk (by decide)
    · rcases hk with hk | hk | hk
      · exact Or.inl hk
      · exact Or.inr (Or.inl hk)
      · exact Or.inr (Or.inr (Or.inl hk))
  by_cases c2 : k = 2
  · exact br_t c2 (one (Or.inl c2))
  refine br_f c2 ?_
  by_cases c13 : k = 13
  · exact br_t c13 (one (Or.inr (Or.inl c13)))
  refine br_f c13 ?_
  by_cases c14 : k = 14
  · exact br_t c14 (one (Or.inr (Or.inr c14)))
  refine br_f c14 ?_
  by_cases c15 : k = 15
  · refine br_t c15 (x_isN (fun z => br_f (by decide) (x_isN (fun w => br_f (by decide) (h0 ?_)) (fun w => br_t rfl (h1 (Or.inr ⟨c15, w⟩))))) (fun z => br_t rfl (h1 (Or.inl ⟨Or.inr (Or.inr (Or.inr c15)), z⟩))))
    rintro (⟨_, g⟩ | ⟨_, g⟩)
    · exact g z
    · exact g w
  · refine br_f c15 (h0 ?_)
    rintro (⟨g | g | g | g, _⟩ | ⟨g, _⟩)
    · exact c2 g
    · exact c13 g
    · exact c14 g
    · exact c15 g
    · exact c15 g
theorem dm_Pg_s {kd na nb : Nat → Int32} {n : Nat} {k a b : Int32} (P : dm_Pg kd na nb n) (hn : n < 32) (hO : ¬ dm_O kd n = 0) (hk : dm_kk k) (hb : ¬ dm_bad k a b) : dm_Pg (upd kd n k) (upd na n a) (upd nb n b) (n + 1) := by
  obtain ⟨p1, p2, p3⟩ := P
  refine ⟨by omega, fun j hj => ?_, fun j hj => ?_⟩
  · have e : dm_O (upd kd n k) j = dm_O kd j := dm_O_c j (fun i hi => pk_un (by omega))
    rw [e]
    rcases Nat.eq_or_lt_of_le (show j ≤ n by omega) with z | z
    · subst z
      omega
    · exact p2 j z
  · rcases Nat.eq_or_lt_of_le (show j ≤ n by omega) with z | z
    · subst z
      rw [pk_us, pk_us, pk_us]
      refine ⟨hk, fun h => dm_nm_N (Classical.not_not.mp (fun g => hb (Or.inl ⟨h, g⟩))), fun h => dm_nm_N (Classical.not_not.mp (fun g => hb (Or.inr ⟨h, g⟩)))⟩
    · rw [pk_un (by omega), pk_un (by omega), pk_un (by omega)]
      exact p3 j z
theorem dm_O_s {kd : Nat → Int32} {n : Nat} {k : Int32} : dm_O (upd kd n k) (n + 1) = dm_O kd n + dm_ar k - 1 := by
  rw [dm_Os, pk_us, dm_O_c (kd' := kd) n (fun i hi => pk_un (by omega))]
def dm_kB (k : Int32) : Prop := k = 3 ∨ k = 4 ∨ k = 5 ∨ k = 6 ∨ k = 7 ∨ k = 8
theorem dm_kF_n {k : Int32} (h : dm_kF k) : ¬ k = 1 ∧ ¬ k = 2 ∧ ¬ k = 13 ∧ ¬ k = 15 := by
  rcases h with rfl | rfl | rfl | rfl | rfl | rfl | rfl | rfl | rfl | rfl | rfl | rfl <;> decide
theorem dm_kB_n {k : Int32} (h : dm_kB k) : ¬ k = 1 ∧ ¬ k = 2 ∧ ¬ k = 13 ∧ ¬ k = 15 ∧ ¬ k = 9 ∧ ¬ k = 11 ∧ ¬ k = 12 ∧ ¬ k = 14 ∧ ¬ k = 16 ∧ ¬ k = 10 := by
  rcases h with rfl | rfl | rfl | rfl | rfl | rfl <;> decide
theorem dm_kS_n {k : Int32} (h : dm_kS k) : ¬ k = 1 ∧ ¬ k = 2 ∧ ¬ k = 13 ∧ ¬ k = 15 ∧ ¬ k = 9 ∧ ¬ k = 11 ∧ ¬ k = 12 ∧ ¬ k = 14 := by
  rcases h with rfl | rfl | rfl | rfl | rfl | rfl | rfl | rfl <;> decide
def dm_bin (k a b : Int32) : Int32 := if k = 3 then a + b else if k = 4 then a - b else if k = 5 then a * b else if k = 6 then a / b else if k = 7 then (if b ≤ a then 0 else 1) else (if a = b then 1 else 0)
