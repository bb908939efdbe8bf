/-! how many are away -/
def bs (m : Nat) : Nat → Nat
  | 0 => 0
  | k + 1 => bs m k + m / 2 ^ k % 2
theorem aw_or : ∀ k, k < 7 → ∀ m, m < 2 ^ k → nI m ||| (0 : Int32) = nI m ∧ nI m ||| ((1 : Int32) <<< (nI k &&& 31)) = nI (m + 2 ^ k) := by decide +kernel
theorem aw_lt (p : Nat → Int32) : ∀ k, k ≤ 7 → ∃ m, m < 2 ^ k ∧ awf p k = nI m
  | 0, _ => ⟨0, by decide, rfl⟩
  | k + 1, h => by
    obtain ⟨m, hm, e⟩ := aw_lt p k (by omega)
    have hp : 2 ^ (k + 1) = 2 ^ k + 2 ^ k := by rw [Nat.pow_succ]; omega
    unfold awf
    rw [e]
    by_cases q : p k = nI k
    · rw [if_pos q]; exact ⟨m, by omega, (aw_or k (by omega) m hm).1⟩
    · rw [if_neg q]; exact ⟨m + 2 ^ k, by omega, (aw_or k (by omega) m hm).2⟩
theorem bc_tab : ∀ m, m < 128 → f_J6_bitCount_0f7a4 (nI m) = some (nI (bs m 7)) ∧ ∀ k, k < 7 → (nI m >>> (nI k &&& 31)) &&& (1 : Int32) = nI (m / 2 ^ k % 2) := by decide +kernel
theorem bs_loop {μ : pm_M} {m : Nat} {E : Int32 → Option (Int32 × pm_M)} (hm : m < 128) (ha : f_X10_away μ = some (nI m)) : pm_it (f_X10_year_b192 μ) 5000 (0, 0) E = E (nI (bs m 7)) := by
  refine it_for (fun k => (nI (bs m k), nI k)) 7 (fun k hk T => ?_) (fun T => ?_) 7 0 5000 (by omega) (by omega)
  · show (if (7 : Int32) ≤ nI k then _ else _) = _
    rw [if_neg (show ¬ (7 : Int32) ≤ nI k from nI_ge (b := 7) hk (by omega))]
    dsimp only
    rw [ha, b_some, (bc_tab m hm).2 k hk, let_eq, nI_add, nI_1]
    rfl
  · rfl
