/-! the list of fitting cases, case by case -/
def cntF (f : Nat → Bool) (i : Nat) : Nat := ((List.range i).filter f).length
theorem fl_s (f : Nat → Bool) (i : Nat) : (List.range (i + 1)).filter f = (List.range i).filter f ++ (if f i = true then [i] else []) := by
  rw [List.range_succ, List.filter_append]
  cases h : f i
  · rw [List.filter_cons_of_neg (by rw [h]; decide), List.filter_nil, if_neg (by decide)]
  · rw [List.filter_cons_of_pos h, List.filter_nil, if_pos rfl]
theorem cnt_s (f : Nat → Bool) (i : Nat) : cntF f (i + 1) = cntF f i + (if f i = true then 1 else 0) := by
  unfold cntF
  rw [fl_s, List.length_append]
  split <;> rfl
theorem cnt_le (f : Nat → Bool) : ∀ i, cntF f i ≤ i
  | 0 => Nat.le_refl 0
  | i + 1 => by
    have := cnt_le f i
    rw [cnt_s]
    split <;> omega
theorem fl_pre (f : Nat → Bool) (i : Nat) : ∀ n, i ≤ n → ∃ t, (List.range n).filter f = (List.range i).filter f ++ t
  | 0, h => ⟨[], by rw [show i = 0 by omega, List.append_nil]⟩
  | n + 1, h => by
    rcases Nat.eq_or_lt_of_le h with q | q
    · exact ⟨[], by rw [q, List.append_nil]⟩
    · obtain ⟨t, e⟩ := fl_pre f i n (by omega)
      exact ⟨t ++ (if f n = true then [n] else []), by rw [fl_s, e, List.append_assoc]⟩
/-- the case that stands at its own count -/
theorem fl_at {f : Nat → Bool} {i n : Nat} (hi : i < n) (h : f i = true) : ((List.range n).filter f)[cntF f i]? = some i := by
  obtain ⟨t, e⟩ := fl_pre f (i + 1) n hi
  rw [e, fl_s, if_pos h, List.append_assoc]
  unfold cntF
  rw [List.getElem?_append_right (Nat.le_refl _), Nat.sub_self]
  rfl
