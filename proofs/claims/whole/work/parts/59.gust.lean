/-! THE GUST -/
def gq (n m l p q : Nat) : Bool := match f_X9_gust (nI n) (nI m) (nI l) (nI p) (nI q), f_X10_gust (nI n) (nI m) (nI l) (nI p) (nI q) with
  | some x, some y => decide (x = y)
  | _, _ => false
def gall (n : Nat) : Bool := (List.range 9).all (fun m => (List.range (m + 1)).all (fun l => (List.range 2).all (fun p => (List.range 2).all (fun q => gq n (m + 1) (l + 1) p q))))
theorem gust_all : (List.range 12).all (fun n => gall (n + 1)) = true := by decide +kernel
theorem gq_of {n m l p q : Nat} (h : gq n m l p q = true) : ∃ x, f_X9_gust (nI n) (nI m) (nI l) (nI p) (nI q) = some x ∧ f_X10_gust (nI n) (nI m) (nI l) (nI p) (nI q) = some x := by
  unfold gq at h
  generalize f_X9_gust (nI n) (nI m) (nI l) (nI p) (nI q) = o1 at h
  generalize f_X10_gust (nI n) (nI m) (nI l) (nI p) (nI q) = o2 at h
  cases o1 with
  | none => cases h
  | some x =>
    cases o2 with
    | none => cases h
    | some y =>
      have e : x = y := of_decide_eq_true h
      exact ⟨x, rfl, by rw [e]⟩
theorem gust_at {n m l p q : Nat} (h1 : n < 12) (h2 : m < 9) (h3 : l ≤ m) (h4 : p < 2) (h5 : q < 2) : ∃ x, f_X9_gust (nI (n + 1)) (nI (m + 1)) (nI (l + 1)) (nI p) (nI q) = some x ∧ f_X10_gust (nI (n + 1)) (nI (m + 1)) (nI (l + 1)) (nI p) (nI q) = some x := by
  have a1 := List.all_eq_true.mp gust_all n (List.mem_range.mpr h1)
  have a2 := List.all_eq_true.mp a1 m (List.mem_range.mpr h2)
  have a3 := List.all_eq_true.mp a2 l (List.mem_range.mpr (by omega))
  have a4 := List.all_eq_true.mp a3 p (List.mem_range.mpr h4)
  have a5 := List.all_eq_true.mp a4 q (List.mem_range.mpr h5)
  exact gq_of a5
theorem gust_or (p1 p2 p3 p4 p5 : Int32) : (f_X9_gust p1 p2 p3 p4 p5 = some (-1000000000000000002) ∧ f_X10_gust p1 p2 p3 p4 p5 = some (-1000000000000000002)) ∨ (¬ p1 < 1 ∧ ¬ 12 < p1 ∧ ¬ p2 < 1 ∧ ¬ 9 < p2 ∧ ¬ p3 < 1 ∧ ¬ p2 < p3 ∧ (∃ a : Nat, a < 2 ∧ p4 = nI a) ∧ ∃ b : Nat, b < 2 ∧ p5 = nI b) := by
  unfold f_X9_gust f_X10_gust
  rw [jn_eq, jn_eq]
  by_cases c1 : p1 < 1
  · rw [if_pos c1]
    dsimp only
    rw [if_pos rfl, x10_in_lo c1, b_some, if_pos rfl]; exact Or.inl ⟨rfl, rfl⟩
  rw [if_neg c1]
  by_cases c2 : 12 < p1
  · rw [if_pos c2]
    dsimp only
    rw [if_pos rfl, x10_in_hi c2, b_some, if_pos rfl]; exact Or.inl ⟨rfl, rfl⟩
  rw [if_neg c2, x10_in_in (Int32.not_lt.mp c1) (Int32.not_lt.mp c2), b_some, if_neg (show ¬ (1 : Int32) = 0 by decide)]
  by_cases c3 : p2 < 1
  · rw [if_pos c3]
    dsimp only
    rw [if_pos rfl, x10_in_lo c3, b_some, if_pos rfl]; exact Or.inl ⟨rfl, rfl⟩
  rw [if_neg c3]
  by_cases c4 : 9 < p2
  · rw [if_pos c4]
    dsimp only
    rw [if_pos rfl, x10_in_hi c4, b_some, if_pos rfl]; exact Or.inl ⟨rfl, rfl⟩
  rw [if_neg c4, x10_in_in (Int32.not_lt.mp c3) (Int32.not_lt.mp c4), b_some, if_neg (show ¬ (1 : Int32) = 0 by decide)]
  by_cases c5 : p3 < 1
  · rw [if_pos c5]
    dsimp only
    rw [if_pos rfl, x10_in_lo c5, b_some, if_pos rfl]; exact Or.inl ⟨rfl, rfl⟩
  rw [if_neg c5]
  by_cases c6 : p2 < p3
  · rw [if_pos c6]
    dsimp only
    rw [if_pos rfl, x10_in_hi c6, b_some, if_pos rfl]; exact Or.inl ⟨rfl, rfl⟩
  rw [if_neg c6, x10_in_in (Int32.not_lt.mp c5) (Int32.not_lt.mp c6), b_some, if_neg (show ¬ (1 : Int32) = 0 by decide)]
  dsimp only
  rw [if_neg (show ¬ (1 : Int32) = 0 by decide)]
  rcases in_or p4 (n := 2) (by omega) with h | ⟨a, ha, rfl⟩
  · rw [zo_out h, b_some, if_pos rfl, zi_out h, b_some, if_pos rfl]; exact Or.inl ⟨rfl, rfl⟩
  rcases in_or p5 (n := 2) (by omega) with h | ⟨b, hb, rfl⟩
  · rw [zo_in ha, b_some, if_neg (show ¬ (1 : Int32) = 0 by decide), zi_in ha, b_some, if_neg (show ¬ (1 : Int32) = 0 by decide), zo_out h, b_some, if_pos rfl, zi_out h, b_some, if_pos rfl]; exact Or.inl ⟨rfl, rfl⟩
  exact Or.inr ⟨c1, c2, c3, c4, c5, c6, ⟨a, ha, rfl⟩, b, hb, rfl⟩
theorem from1 {p : Int32} (h : ¬ p < 1) : ∃ k : Nat, k + 1 < 2 ^ 31 ∧ p = nI (k + 1) := by
  obtain ⟨j, hj, rfl⟩ := nI_of (x := p) (fun q => h (Int32.lt_trans q (by decide)))
  cases j with
  | zero => exact absurd (show nI 0 < 1 by decide) h
  | succ k => exact ⟨k, hj, rfl⟩
theorem okgust : ok_gust Rel := by
  intro p1 p2 p3 p4 p5 μ hR
  rcases gust_or p1 p2 p3 p4 p5 with ⟨h1, h2⟩ | ⟨c1, c2, c3, c4, c5, c6, ⟨a, ha, rfl⟩, b, hb, rfl⟩
  · exact ⟨_, h1, h2, hR⟩
  obtain ⟨n, hn, rfl⟩ := from1 c1
  obtain ⟨m, hm, rfl⟩ := from1 c3
  obtain ⟨l, hl, rfl⟩ := from1 c5
  have n1 : n < 12 := by
    rcases Nat.lt_or_ge n 12 with q | q
    · exact q
    · exact absurd (show 12 < nI (n + 1) from nI_lt (a := 12) (by omega) hn) c2
  have n2 : m < 9 := by
    rcases Nat.lt_or_ge m 9 with q | q
    · exact q
    · exact absurd (show 9 < nI (m + 1) from nI_lt (a := 9) (by omega) hm) c4
  have n3 : l ≤ m := by
    rcases Nat.lt_or_ge m l with q | q
    · exact absurd (nI_lt (a := m + 1) (b := l + 1) (by omega) hl) c6
    · exact q
  obtain ⟨x, e1, e2⟩ := gust_at n1 n2 n3 ha hb
  exact ⟨x, e1, e2, hR⟩
