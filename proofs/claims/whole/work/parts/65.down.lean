/-! is a post down, for both -/
theorem downB_iff {c d p : Nat} : downB c d p = true ↔ c / 10 ≤ p ∧ p ≤ c / 10 + d * (c % 10) := by
  unfold downB
  exact decide_eq_true_iff
theorem dmul {c d : Nat} (hd : d ≤ 5) : d * (c % 10) ≤ 45 := Nat.le_trans (Nat.mul_le_mul hd (show c % 10 ≤ 9 by omega)) (by decide)
theorem x_down {c d p : Nat} (hc : c < 410) (hd : d ≤ 5) (hp : p ≤ 99) : f_X6_isDown (nI c) (nI d) (nI p) = some (if downB c d p = true then 1 else 0) := by
  have hm := dmul (c := c) hd
  unfold f_X6_isDown f_X6_lastDown
  rw [t10 (by omega), tr10 (by omega), pk_mul, nI_add, b_some]
  by_cases q : p < c / 10
  · rw [if_pos (nI_lt q (by omega)), if_neg (fun z => by have := (downB_iff.mp z).1; omega)]
  rw [if_neg (Int32.not_lt.mpr (nI_le (by omega) (by omega)))]
  by_cases q2 : c / 10 + d * (c % 10) < p
  · rw [if_pos (nI_lt q2 (by omega)), if_neg (fun z => by have := (downB_iff.mp z).2; omega)]
  · rw [if_neg (Int32.not_lt.mpr (nI_le (by omega) (by omega))), if_pos (downB_iff.mpr ⟨by omega, by omega⟩)]
theorem m_down {c d p : Nat} (hc : c < 410) (hd : d ≤ 5) (hp : p ≤ 99) : f_X10_isDown (nI c) (nI d) (nI p) = some (if downB c d p = true then 1 else 0) := by
  have hm := dmul (c := c) hd
  unfold f_X10_isDown
  rw [t10 (by omega), tr10 (by omega), pk_mul, nI_add]
  by_cases q : p < c / 10
  · rw [x10_in_lo (nI_lt q (by omega)), b_some, if_pos (Or.inl rfl), if_neg (fun z => by have := (downB_iff.mp z).1; omega)]
  by_cases q2 : c / 10 + d * (c % 10) < p
  · rw [x10_in_hi (nI_lt q2 (by omega)), b_some, if_pos (Or.inl rfl), if_neg (fun z => by have := (downB_iff.mp z).2; omega)]
  · rw [x10_in_in (nI_le (by omega) (by omega)) (nI_le (by omega) (by omega)), b_some, if_pos (Or.inr rfl), if_pos (downB_iff.mpr ⟨by omega, by omega⟩)]
