/-! X's copies of binding sets -/
def dm_cp (bo : Nat → Int64) (s t j : Nat) : Nat → Int64 := fun k => if t * 8 ≤ k ∧ k < t * 8 + j then bo (s * 8 + (k - t * 8)) else bo k
theorem dm_cp0 (bo : Nat → Int64) (s t : Nat) : dm_cp bo s t 0 = bo := by
  funext k
  exact if_neg (by omega)
theorem dm_cps {bo : Nat → Int64} {s t j : Nat} (h : s < t) (hj : j < 8) : vp_updL (dm_cp bo s t j) (t * 8 + j) (dm_cp bo s t j (s * 8 + j)) = dm_cp bo s t (j + 1) := by
  have e : dm_cp bo s t j (s * 8 + j) = bo (s * 8 + j) := if_neg (by omega)
  rw [e]
  funext k
  by_cases z : k = t * 8 + j
  · subst z
    rw [pk_uLs]
    have g : dm_cp bo s t (j + 1) (t * 8 + j) = bo (s * 8 + (t * 8 + j - t * 8)) := if_pos (by omega)
    rw [g, Nat.add_sub_cancel_left]
  · rw [pk_uLn z]
    by_cases w : t * 8 ≤ k ∧ k < t * 8 + j
    · have g1 : dm_cp bo s t j k = bo (s * 8 + (k - t * 8)) := if_pos w
      have g2 : dm_cp bo s t (j + 1) k = bo (s * 8 + (k - t * 8)) := if_pos (by omega)
      rw [g1, g2]
    · have g1 : dm_cp bo s t j k = bo k := if_neg w
      have g2 : dm_cp bo s t (j + 1) k = bo k := if_neg (by omega)
      rw [g1, g2]
theorem dm_cp_lo {bo : Nat → Int64} {s t k : Nat} (h : k < t * 8) : dm_cp bo s t 8 k = bo k := if_neg (by omega)
theorem dm_cp_in {bo : Nat → Int64} {s t x : Nat} (h : x < 8) : dm_cp bo s t 8 (t * 8 + x) = bo (s * 8 + x) := by
  have g : dm_cp bo s t 8 (t * 8 + x) = bo (s * 8 + (t * 8 + x - t * 8)) := if_pos (by omega)
  rw [g, Nat.add_sub_cancel_left]
theorem dm_b1_lo {bo : Nat → Int64} {t y k : Nat} {v : Int64} (h : k < t * 8) : vp_updL bo (t * 8 + y) v k = bo k := pk_uLn (by omega)
theorem dm_b1_in {bo : Nat → Int64} {t y x : Nat} {v : Int64} : vp_updL bo (t * 8 + y) v (t * 8 + x) = if x = y then v else bo (t * 8 + x) := by
  by_cases e : x = y
  · subst e
    rw [pk_uLs, if_pos rfl]
  · rw [pk_uLn (by omega), if_neg e]
