theorem posts_loop {μ : pm_M} {N : Nat} {p : Int32} {E : Int32 → Option Int32} {res : Option Int32} (hN : N ≤ 8) (h4 : μ 50 4 = nI N) (hs : okSg (μ 55) N)
    (h1 : (∀ i, i < 410 → sfit (μ 55) N i = true → ¬ nI (cntF (sfit (μ 55) N) i) = p) → E (nI (cntF (sfit (μ 55) N) 410)) = res) (h2 : ∀ i, i < 410 → sfit (μ 55) N i = true → nI (cntF (sfit (μ 55) N) i) = p → some (nI i) = res) : pm_it (f_X10_posts_b4 p μ) 5000 (0, 0) E = res := by
  refine it_wp (fun k s => ∃ i, s = (nI (cntF (sfit (μ 55) N) i), nI i) ∧ i + k = 411 ∧ i ≤ 410 ∧ ∀ j, j < i → sfit (μ 55) N j = true → ¬ nI (cntF (sfit (μ 55) N) j) = p) (fun o => o = res) (fun s h => by obtain ⟨i, -, e1, e2, -⟩ := h; omega) (fun k s h T hT => ?_) 5000 411 _ (by omega) ⟨0, rfl, by omega, by omega, fun j hj => by omega⟩
  obtain ⟨i, rfl, e1, e2, e3⟩ := h
  unfold f_X10_posts_b4
  dsimp only
  by_cases q : i = 410
  · subst q
    rw [if_pos (show (410 : Int32) ≤ nI 410 by decide)]
    exact h1 e3
  have hi : i < 410 := by omega
  have hcs := cnt_s (sfit (μ 55) N) i
  rw [if_neg (show ¬ (410 : Int32) ≤ nI i from nI_ge (b := 410) hi (by omega)), m_fit hN h4 hs hi, b_some, jn_eq, nI_1]
  have next : ∀ x, x = nI (cntF (sfit (μ 55) N) (i + 1)) → (sfit (μ 55) N i = true → ¬ nI (cntF (sfit (μ 55) N) i) = p) → T (x, nI (i + 1)) = res := fun x hx hn => by
    rw [hx]
    refine hT _ ⟨i + 1, rfl, by omega, by omega, fun j hj => ?_⟩
    rcases Nat.eq_or_lt_of_le (show j ≤ i by omega) with z | z
    · rw [z]; exact hn
    · exact e3 j z
  by_cases g : sfit (μ 55) N i = true
  · rw [if_pos g] at hcs
    rw [if_pos g, if_neg (show ¬ (1 : Int32) = 0 by decide)]
    by_cases g2 : nI (cntF (sfit (μ 55) N) i) = p
    · rw [if_pos g2]; exact h2 i hi g g2
    · rw [if_neg g2, nI_1]
      exact next _ (by rw [hcs]) (fun _ => g2)
  · rw [if_neg g] at hcs
    rw [if_neg g, if_pos rfl]
    exact next _ (by rw [hcs]; rfl) (fun z => absurd z g)
