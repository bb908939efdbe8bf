/-! A ROW OF LIKINGS -/
def ddg (k i : Nat) : Nat := k / 10 ^ i % 10
def isR (k : Nat) : Bool := decide (k < 10000) && decide (ddg k 0 < 4) && decide (ddg k 1 < 4) && decide (ddg k 2 < 4) && decide (ddg k 3 < 4) && decide (ddg k 0 ≠ ddg k 1) && decide (ddg k 0 ≠ ddg k 2) && decide (ddg k 0 ≠ ddg k 3) && decide (ddg k 1 ≠ ddg k 2) && decide (ddg k 1 ≠ ddg k 3) && decide (ddg k 2 ≠ ddg k 3)
def useU (k : Nat) : Nat → Int32
  | 0 => 0
  | i + 1 => useU k i ||| ((1 : Int32) <<< (nI (ddg k i) &&& 31))
def lk (k : Nat) : Bool := decide (f_X1_isRow (nI k) = some (if isR k = true then 1 else 0)) && (decide (useU k 4 = 15) == isR k)
theorem lk_all : (List.range 100).all (fun a => (List.range 100).all (fun b => lk (100 * a + b))) = true := by decide +kernel
theorem lk_at {k : Nat} (h : k < 10000) : f_X1_isRow (nI k) = some (if isR k = true then 1 else 0) ∧ (useU k 4 = 15 ↔ isR k = true) := by
  have a1 := List.all_eq_true.mp lk_all (k / 100) (List.mem_range.mpr (by omega))
  have a2 := List.all_eq_true.mp a1 (k % 100) (List.mem_range.mpr (by omega))
  rw [show 100 * (k / 100) + k % 100 = k by omega] at a2
  unfold lk at a2
  rw [Bool.and_eq_true] at a2
  refine ⟨of_decide_eq_true a2.1, ?_⟩
  have e := eq_of_beq a2.2
  rw [← e]
  exact decide_eq_true_iff.symm
/-- the model's reading of a row -/
theorem m_used {k : Nat} (hk : k < 2 ^ 31) {E : Int32 × Int32 → Option (Int32 × pm_M)} : pm_it (f_X10_likes_b29 (nI k)) 5000 (0, nI k, 0) E = E (useU k 4, nI (k / 10000)) := by
  have e : ∀ i, k / 10 ^ i < 2 ^ 31 := fun i => Nat.lt_of_le_of_lt (Nat.div_le_self _ _) hk
  refine it_for (fun i => (useU k i, nI (k / 10 ^ i), nI i)) 4 (fun i hi T => ?_) (fun T => ?_) 4 0 5000 (by omega) (by omega) |> fun h => (by rw [show k / 10 ^ 0 = k by rw [Nat.pow_zero, Nat.div_one]] at h; exact h)
  · show (if (4 : Int32) ≤ nI i then _ else _) = _
    rw [if_neg (show ¬ (4 : Int32) ≤ nI i from nI_ge (b := 4) hi (by omega))]
    dsimp only
    rw [if_neg (nI_pos hk), tr10 (e i), let_eq, t10 (e i), let_eq, nI_1, Nat.div_div_eq_div_mul, ← Nat.pow_succ]
    rfl
  · rfl
