theorem i9999 : (9999 : Int32) = nI 9999 := by decide
theorem le9999 {x : Nat} (h : x < 10000) : nI x ≤ 9999 := by rw [i9999]; exact nI_le (by omega) (by omega)
theorem gt9999 {p : Int32} (h : nI 10000 ≤ p) : 9999 < p := Int32.lt_of_lt_of_le (show (9999 : Int32) < nI 10000 by decide) h
theorem yr_out (p1 p2 p3 : Int32) (μ : pm_M) (h : p1 < 0 ∨ 9999 < p1 ∨ p2 < 1 ∨ 99 < p2 ∨ p3 < 0 ∨ 2 < p3) : f_X9_year p1 p2 p3 μ = some (-2, μ) ∧ f_X10_year p1 p2 p3 μ = some (-2, μ) := by
  unfold f_X9_year f_X10_year
  rw [jn_eq, jn_eq]
  by_cases c1 : p1 < 0
  · rw [if_pos c1]
    dsimp only
    rw [if_pos rfl, x10_in_lo c1, b_some, if_pos rfl]; exact ⟨rfl, rfl⟩
  rw [if_neg c1]
  by_cases c2 : 9999 < p1
  · rw [if_pos c2]
    dsimp only
    rw [if_pos rfl, x10_in_hi c2, b_some, if_pos rfl]; exact ⟨rfl, rfl⟩
  rw [if_neg c2, x10_in_in (Int32.not_lt.mp c1) (Int32.not_lt.mp c2), b_some, if_neg (show ¬ (1 : Int32) = 0 by decide)]
  by_cases c3 : p2 < 1
  · rw [if_pos c3]
    dsimp only
    rw [if_pos rfl, x10_in_lo c3, b_some, if_pos rfl]; exact ⟨rfl, rfl⟩
  rw [if_neg c3]
  by_cases c4 : 99 < p2
  · rw [if_pos c4]
    dsimp only
    rw [if_pos rfl, x10_in_hi c4, b_some, if_pos rfl]; exact ⟨rfl, rfl⟩
  rw [if_neg c4, x10_in_in (Int32.not_lt.mp c3) (Int32.not_lt.mp c4), b_some, if_neg (show ¬ (1 : Int32) = 0 by decide)]
  dsimp only
  rw [if_neg (show ¬ (1 : Int32) = 0 by decide)]
  by_cases c5 : p3 < 0
  · rw [if_pos c5, x10_in_lo c5, b_some, if_pos rfl]; exact ⟨rfl, rfl⟩
  rw [if_neg c5]
  by_cases c6 : 2 < p3
  · rw [if_neg (Int32.not_le.mpr c6), x10_in_hi c6, b_some, if_pos rfl]; exact ⟨rfl, rfl⟩
  · rcases h with h | h | h | h | h | h
    · exact absurd h c1
    · exact absurd h c2
    · exact absurd h c3
    · exact absurd h c4
    · exact absurd h c5
    · exact absurd h c6
theorem frY.fr0 {μ ν : pm_M} (h : frY μ ν) : fr0 μ ν := ⟨fun j a b => h.1 j b (fun q => by rw [q] at a; cases a), h.2 4 (by decide) (by decide), h.2 6 (by decide) (by decide)⟩
