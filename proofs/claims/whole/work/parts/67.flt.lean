/-! the list of fitting cases, case by case -/
def cntF (f : Nat → Bool) (i : Nat) : Nat := ((List.range i).filter f).length
theorem fl_s (f : Nat → Bool) (i : Nat) : (List.range (i + 1)).filter f = (List.range i).filter f ++ (if f i = true then [i] else []) := by
  rw [List.range_succ, List.filter_append]
  cases h : f i
  · rw [List.filter_cons_of_neg (by rw [h]; decide), List.filter_nil, if_neg (by decide)]
  · rw [List.filter_cons_of_pos h, List.filter_nil, if_pos rfl]
theorem cnt_s (f : Nat → Bool) (i : Nat) : cntF f (i + 1) = cntF f i + (if f i = true then 1 else 0) := by
  unfold cntF
  rw [fl_s, List.length_append]
  split <;> rfl
theorem cnt_le (f : Nat → Bool) : ∀ i, cntF f i ≤ i
  | 0 => Nat.le_refl 0
  | i + 1 => by
    have := cnt_le f i
    rw [cnt_s]
    split <;> omega
