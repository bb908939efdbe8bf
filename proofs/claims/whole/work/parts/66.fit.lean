/-- a sighting agrees with a case -/
def sm (sg : Nat → Int32) (c j : Nat) : Bool := downB c (sg (3 * j)).toNatClampNeg (sg (3 * j + 1)).toNatClampNeg == decide (sg (3 * j + 2) = 1)
theorem sfit_iff {sg : Nat → Int32} {N c : Nat} : sfit sg N c = true ↔ ∀ j, j < N → sm sg c j = true := by
  unfold sfit
  rw [List.all_eq_true]
  exact ⟨fun h j hj => h j (List.mem_range.mpr hj), fun h j hj => h j (List.mem_range.mp hj)⟩
def okSg (sg : Nat → Int32) (N : Nat) : Prop := ∀ j, j < N → (∃ d : Nat, d ≤ 5 ∧ sg (3 * j) = nI d) ∧ (∃ p : Nat, p ≤ 99 ∧ sg (3 * j + 1) = nI p) ∧ (sg (3 * j + 2) = 0 ∨ sg (3 * j + 2) = 1)
theorem m_fit {μ : pm_M} {N c : Nat} (hN : N ≤ 8) (h4 : μ 50 4 = nI N) (hs : okSg (μ 55) N) (hc : c < 410) : f_X10_isFit (nI c) μ = some (if sfit (μ 55) N c = true then 1 else 0) := by
  unfold f_X10_isFit
  refine it_wp (fun k s => ∃ i v, s = (v, nI i) ∧ i + k = N + 1 ∧ i ≤ N ∧ ((v = 1 ∧ ∀ j, j < i → sm (μ 55) c j = true) ∨ (v = 0 ∧ ¬ sfit (μ 55) N c = true))) (fun o => o = some (if sfit (μ 55) N c = true then 1 else 0)) (fun s h => by obtain ⟨i, v, -, h1, h2, -⟩ := h; omega) (fun k s h T hT => ?_) 5000 (N + 1) _ (by omega) ⟨0, 1, rfl, by omega, by omega, Or.inl ⟨rfl, fun j hj => by omega⟩⟩
  obtain ⟨i, v, rfl, e1, e2, e3⟩ := h
  unfold f_X10_isFit_b4
  dsimp only
  by_cases q : i = N
  · subst q
    rw [if_pos (show μ 50 4 ≤ nI i by rw [h4]; exact nI_le (Nat.le_refl i) (by omega))]
    rcases e3 with ⟨rfl, e3⟩ | ⟨rfl, e3⟩
    · rw [if_pos (Or.inr rfl), if_pos (sfit_iff.mpr e3)]
    · rw [if_pos (Or.inl rfl), if_neg e3]
  have hi : i < N := by omega
  rw [if_neg (show ¬ μ 50 4 ≤ nI i by rw [h4]; exact nI_ge hi (by omega))]
  rcases e3 with ⟨rfl, e3⟩ | ⟨rfl, e3⟩
  · obtain ⟨⟨d, hd, ed⟩, ⟨p, hp, ep⟩, hb⟩ := hs i hi
    have esm : sm (μ 55) c i = (downB c d p == decide (μ 55 (3 * i + 2) = 1)) := by unfold sm; rw [ed, ep, nI_clamp (by omega), nI_clamp (by omega)]
    rw [if_neg (show ¬ (1 : Int32) = 0 by decide), show (3 : Int32) * nI i = nI (3 * i) from pk_mul 3 i, show nI (3 * i) + (1 : Int32) = nI (3 * i + 1) from nI_1 _, show nI (3 * i) + (2 : Int32) = nI (3 * i + 2) from nI_add _ 2, ck_in (by omega) (by omega), ck_in (by omega) (by omega), nI_clamp (by omega), nI_clamp (by omega), nI_clamp (by omega), ed, ep, m_down hc hd hp, b_some, ck_in (by omega) (by omega), jn_if, jn_if, nI_1]
    refine hT _ ⟨i + 1, _, rfl, by omega, by omega, ?_⟩
    have hyes : sm (μ 55) c i = true → ∀ j, j < i + 1 → sm (μ 55) c j = true := fun h j hj => by
      rcases Nat.eq_or_lt_of_le (show j ≤ i by omega) with z | z
      · rw [z]; exact h
      · exact e3 j z
    have hno : ¬ sm (μ 55) c i = true → ¬ sfit (μ 55) N c = true := fun h z => h (sfit_iff.mp z i hi)
    rw [esm] at hyes hno
    cases hq : downB c d p <;> rw [hq] at hyes hno <;> rcases hb with hb | hb <;> rw [hb] at hyes hno ⊢
    · exact Or.inl ⟨by decide, hyes (by decide)⟩
    · exact Or.inr ⟨by decide, hno (by decide)⟩
    · exact Or.inr ⟨by decide, hno (by decide)⟩
    · exact Or.inl ⟨by decide, hyes (by decide)⟩
  · rw [if_pos (show (0 : Int32) = 0 from rfl), if_pos (Or.inl rfl), if_neg e3]
