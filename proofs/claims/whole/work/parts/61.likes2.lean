/-- the ranks laid so far -/
def lrk (x k : Nat) (m : pm_M) (b : Nat) : Nat → pm_M
  | 0 => m
  | i + 1 => pm_up (lrk x k m b i) b (x + ddg k i) (nI (3 - i))
/-- the row laid so far, last first -/
def lrw (x k : Nat) (m : pm_M) (b : Nat) : Nat → pm_M
  | 0 => m
  | i + 1 => pm_up (lrw x k m b i) b (x + (3 - i)) (nI (ddg k i))
def jv (i : Nat) : Int32 := if i = 4 then -1 else nI (3 - i)
theorem jv_tab : ∀ i, i < 4 → jv i = nI (3 - i) ∧ jv i + (-1) = jv (i + 1) ∧ ¬ jv i < 0 := by decide
theorem isR_dg {k : Nat} (h : isR k = true) : k < 10000 ∧ (∀ i, i < 4 → ddg k i < 4) ∧ ∀ i j, i < 4 → j < 4 → ddg k i = ddg k j → i = j := by
  unfold isR at h
  simp only [Bool.and_eq_true, decide_eq_true_eq] at h
  obtain ⟨⟨⟨⟨⟨⟨⟨⟨⟨⟨h0, h1⟩, h2⟩, h3⟩, h4⟩, n1⟩, n2⟩, n3⟩, n4⟩, n5⟩, n6⟩ := h
  refine ⟨h0, fun i hi => ?_, fun i j hi hj e => ?_⟩
  · have : i = 0 ∨ i = 1 ∨ i = 2 ∨ i = 3 := by omega
    rcases this with rfl | rfl | rfl | rfl
    · exact h1
    · exact h2
    · exact h3
    · exact h4
  · have a : i = 0 ∨ i = 1 ∨ i = 2 ∨ i = 3 := by omega
    have c : j = 0 ∨ j = 1 ∨ j = 2 ∨ j = 3 := by omega
    rcases a with rfl | rfl | rfl | rfl <;> rcases c with rfl | rfl | rfl | rfl <;> first | rfl | exact absurd e ‹_› | exact absurd e.symm ‹_›
theorem set_loop {s o k : Nat} {m : pm_M} {E : pm_M → Option pm_M} (hs : s < 2) (ho : o < 4) (hk : isR k = true) : pm_it (f_X1_setRow_b33 7 (nI s) (nI o)) 5000 (nI k, 3, m) E = E (lrk (16 * s + 4 * o) k m 9 4) := by
  obtain ⟨h0, h1, h2⟩ := isR_dg hk
  have e : ∀ i, k / 10 ^ i < 2 ^ 31 := fun i => Nat.lt_of_le_of_lt (Nat.div_le_self _ _) (by omega)
  refine it_for (fun i => (nI (k / 10 ^ i), jv i, lrk (16 * s + 4 * o) k m 9 i)) 4 (fun i hi T => ?_) (fun T => ?_) 4 0 5000 (by omega) (by omega) |> fun h => (by rw [show k / 10 ^ 0 = k by rw [Nat.pow_zero, Nat.div_one]] at h; exact h)
  · obtain ⟨j1, j2, j3⟩ := jv_tab i hi
    show (if jv i < 0 then _ else _) = _
    rw [if_neg j3]
    dsimp only
    unfold f_X1_setRank
    rw [one_in hs ho, b_some, if_neg (show ¬ (1 : Int32) = 0 by decide), tr10 (e i), show k / 10 ^ i % 10 = ddg k i from rfl, one_in hs (h1 i hi), b_some, if_neg (show ¬ (1 : Int32) = 0 by decide), ix16, ck_in (by have := h1 i hi; omega) (by omega), nI_clamp (by have := h1 i hi; omega), let_eq, b_some, t10 (e i), let_eq, j2, Nat.div_div_eq_div_mul, ← Nat.pow_succ, j1]
    rfl
  · rfl
theorem row_loop {s o k : Nat} {m : pm_M} {E : pm_M → Option (Int32 × pm_M)} (hs : s < 2) (ho : o < 4) (hk : isR k = true) : pm_it (f_X10_likes_b93 (nI s) (nI o)) 5000 (nI k, 3, m) E = E (lrw (16 * s + 4 * o) k m 54 4) := by
  obtain ⟨h0, h1, h2⟩ := isR_dg hk
  have e : ∀ i, k / 10 ^ i < 2 ^ 31 := fun i => Nat.lt_of_le_of_lt (Nat.div_le_self _ _) (by omega)
  refine it_for (fun i => (nI (k / 10 ^ i), jv i, lrw (16 * s + 4 * o) k m 54 i)) 4 (fun i hi T => ?_) (fun T => ?_) 4 0 5000 (by omega) (by omega) |> fun h => (by rw [show k / 10 ^ 0 = k by rw [Nat.pow_zero, Nat.div_one]] at h; exact h)
  · obtain ⟨j1, j2, j3⟩ := jv_tab i hi
    show (if jv i < 0 then _ else _) = _
    rw [if_neg j3]
    dsimp only
    rw [j2, j1, ix16, ck_in (by omega) (by omega), nI_clamp (by omega), tr10 (e i), show k / 10 ^ i % 10 = ddg k i from rfl, let_eq, t10 (e i), let_eq, Nat.div_div_eq_div_mul, ← Nat.pow_succ]
    rfl
  · rfl
