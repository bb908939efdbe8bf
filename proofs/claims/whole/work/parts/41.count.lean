/-! counting pales -/
def sumf (f : Nat → Nat) : Nat → Nat
  | 0 => 0
  | n + 1 => sumf f n + f n
theorem sumf_congr {f g : Nat → Nat} : ∀ n : Nat, (∀ k, k < n → f k = g k) → sumf f n = sumf g n
  | 0, _ => rfl
  | n + 1, h => by
    show sumf f n + f n = sumf g n + g n
    rw [sumf_congr n (fun k hk => h k (by omega)), h n (by omega)]
theorem sumf_le {f : Nat → Nat} (c : Nat) : ∀ n : Nat, (∀ k, k < n → f k ≤ c) → sumf f n ≤ n * c
  | 0, _ => by simp [sumf]
  | n + 1, h => by
    show sumf f n + f n ≤ (n + 1) * c
    have h1 := sumf_le c n (fun k hk => h k (by omega))
    have h2 := h n (by omega)
    rw [Nat.succ_mul]
    omega
def cbit (lo hi x : Int32) : Nat := if x < lo then 0 else if hi < x then 0 else 1
theorem cbit_le (lo hi x : Int32) : cbit lo hi x ≤ 1 := by
  unfold cbit
  split
  · omega
  · split <;> omega
/-- the class's count: pairs a < c -/
def cpair (s : Nat → Int32) (lo hi : Int32) : Nat := sumf (fun a => sumf (fun k => cbit lo hi (s (7 * a + (a + 1 + k)))) (6 - a)) 7
theorem c18_eq {b : Nat} {lo hi : Int32} {μ : pm_M} {v5 : Int32 × Int32} {a : Nat} (hv : v5.2 = nI a) (ha : a < 7) {E : Int32 → Option Int32} (s c : Nat) (hc : c ≤ 7) :
    pm_it (f_X2_countStrengths_b18 b lo hi μ v5) 5000 (nI s, nI c) E = E (nI (s + sumf (fun k => cbit lo hi (μ (b + 1) (7 * a + (c + k)))) (7 - c))) := by
  refine it_for (fun k => (nI (s + sumf (fun k => cbit lo hi (μ (b + 1) (7 * a + (c + k)))) k), nI (c + k))) (7 - c) (fun k hk T => ?_) (fun T => ?_) (7 - c) 0 5000 (by omega) (by omega)
  · have h7 : ¬ (7 : Int32) ≤ nI (c + k) := by rw [i_7]; exact nI_ge (by omega) (by omega)
    show (if (7 : Int32) ≤ nI (c + k) then _ else _) = _
    rw [if_neg h7, hv, ix7, ck_in (by omega) (by omega), nI_clamp (by omega)]
    show (if μ (b + 1) (7 * a + (c + k)) < lo then _ else _) = T (nI (s + (sumf (fun k => cbit lo hi (μ (b + 1) (7 * a + (c + k)))) k + cbit lo hi (μ (b + 1) (7 * a + (c + k))))), nI (c + (k + 1)))
    unfold cbit
    by_cases h1 : μ (b + 1) (7 * a + (c + k)) < lo
    · rw [if_pos h1, if_pos h1]
      show T (_, nI (c + k) + 1) = _
      rw [nI_1]
      rfl
    · rw [if_neg h1, if_neg h1]
      by_cases h2 : hi < μ (b + 1) (7 * a + (c + k))
      · rw [if_pos h2, if_pos h2]
        show T (_, nI (c + k) + 1) = _
        rw [nI_1]
        rfl
      · rw [if_neg h2, if_neg h2]
        show T (nI _ + 1, nI (c + k) + 1) = _
        rw [nI_1, nI_1]
        rfl
  · have h7 : (7 : Int32) ≤ nI (c + (7 - c)) := by rw [i_7]; exact nI_le (by omega) (by omega)
    show (if (7 : Int32) ≤ nI (c + (7 - c)) then _ else _) = _
    rw [if_pos h7]
theorem cs_eq (b : Nat) (lo hi : Int32) (μ : pm_M) : f_X2_countStrengths b lo hi μ = some (nI (cpair (μ (b + 1)) lo hi)) := by
  unfold f_X2_countStrengths
  refine it_for (fun a => (nI (sumf (fun a => sumf (fun k => cbit lo hi (μ (b + 1) (7 * a + (a + 1 + k)))) (6 - a)) a), nI a)) 7 (fun a ha T => ?_) (fun T => ?_) 7 0 5000 (by omega) (by omega)
  · show (if (7 : Int32) ≤ nI a then _ else _) = _
    rw [if_neg (by rw [i_7]; exact nI_ge ha (by omega)), let_eq]
    show pm_it _ 5000 (nI _, nI a + 1) _ = _
    rw [nI_1, c18_eq rfl ha _ (a + 1) (by omega)]
    rw [show 7 - (a + 1) = 6 - a by omega]
    rfl
  · rfl
theorem cpales_eq (b : Nat) (μ : pm_M) : f_X2_countPales b μ = some (nI (cpair (μ (b + 1)) 0 9)) := by
  unfold f_X2_countPales
  rw [cs_eq]
  rfl
theorem cgaps_eq (b : Nat) (μ : pm_M) : f_X2_countGaps b μ = some (nI (cpair (μ (b + 1)) 0 0)) := by
  unfold f_X2_countGaps
  rw [cs_eq]
  rfl
theorem in_bit (x lo hi : Int32) : f_X10_in x lo hi = some (nI (cbit lo hi x)) := by
  unfold f_X10_in cbit
  split
  · rfl
  · split <;> rfl
/-- the model's count: all places, halved -/
theorem po_eq (most : Int32) (μ : pm_M) : f_X10_palesOf most μ = some (nI (sumf (fun i => cbit 0 most (μ 52 i)) 49 / 2)) := by
  unfold f_X10_palesOf
  have hle : ∀ n, n ≤ 49 → sumf (fun i => cbit 0 most (μ 52 i)) n ≤ 49 := fun n hn => by
    have := sumf_le (f := fun i => cbit 0 most (μ 52 i)) 1 n (fun k _ => cbit_le 0 most _)
    omega
  have hlast : (nI (sumf (fun i => cbit 0 most (μ 52 i)) 49) / (2 : Int32)) = nI (sumf (fun i => cbit 0 most (μ 52 i)) 49 / 2) := by
    have := hle 49 (by omega)
    rw [show (2 : Int32) = nI 2 from rfl, pk_div (by omega) (by omega) (by omega)]
  refine (it_for (fun k => (nI (sumf (fun i => cbit 0 most (μ 52 i)) k), nI k)) 49 (fun k hk T => ?_) (fun T => ?_) 49 0 5000 (by omega) (by omega)).trans (congrArg some hlast)
  · show (if (49 : Int32) ≤ nI k then _ else _) = _
    rw [if_neg (by rw [show (49 : Int32) = nI 49 from rfl]; exact nI_ge hk (by omega))]
    dsimp only
    rw [ck_in (by omega) (by omega), nI_clamp (by omega), in_bit, b_some]
    show _ = T (nI (sumf (fun i => cbit 0 most (μ 52 i)) k + cbit 0 most (μ 52 k)), nI (k + 1))
    rw [← nI_add, ← nI_1]
    unfold cbit
    by_cases h1 : μ 52 k < 0
    · rw [if_pos h1]; rfl
    · rw [if_neg h1]
      by_cases h2 : most < μ 52 k
      · rw [if_pos h2]; rfl
      · rw [if_neg h2]; rfl
  · rfl
theorem pair_eq {s : Nat → Int32} {hi : Int32} (hsym : ∀ a c, a < 7 → c < 7 → s (7 * a + c) = s (7 * c + a)) (hd : ∀ a, a < 7 → s (8 * a) < 0) : sumf (fun i => cbit 0 hi (s i)) 49 / 2 = cpair s 0 hi := by
  have h0 : ∀ a, a < 7 → cbit 0 hi (s (8 * a)) = 0 := fun a ha => by unfold cbit; rw [if_pos (hd a ha)]
  have hs : ∀ a c, a < 7 → c < 7 → cbit 0 hi (s (7 * c + a)) = cbit 0 hi (s (7 * a + c)) := fun a c ha hc => by rw [hsym a c ha hc]
  have d0 := h0 0 (by omega); have d1 := h0 1 (by omega); have d2 := h0 2 (by omega); have d3 := h0 3 (by omega); have d4 := h0 4 (by omega); have d5 := h0 5 (by omega); have d6 := h0 6 (by omega)
  have e01 := hs 0 1 (by omega) (by omega); have e02 := hs 0 2 (by omega) (by omega); have e03 := hs 0 3 (by omega) (by omega); have e04 := hs 0 4 (by omega) (by omega); have e05 := hs 0 5 (by omega) (by omega); have e06 := hs 0 6 (by omega) (by omega)
  have e12 := hs 1 2 (by omega) (by omega); have e13 := hs 1 3 (by omega) (by omega); have e14 := hs 1 4 (by omega) (by omega); have e15 := hs 1 5 (by omega) (by omega); have e16 := hs 1 6 (by omega) (by omega)
  have e23 := hs 2 3 (by omega) (by omega); have e24 := hs 2 4 (by omega) (by omega); have e25 := hs 2 5 (by omega) (by omega); have e26 := hs 2 6 (by omega) (by omega)
  have e34 := hs 3 4 (by omega) (by omega); have e35 := hs 3 5 (by omega) (by omega); have e36 := hs 3 6 (by omega) (by omega)
  have e45 := hs 4 5 (by omega) (by omega); have e46 := hs 4 6 (by omega) (by omega); have e56 := hs 5 6 (by omega) (by omega)
  simp only [Nat.reduceMul, Nat.reduceAdd] at *
  simp only [cpair, sumf, Nat.reduceMul, Nat.reduceAdd, Nat.reduceSub]
  omega
