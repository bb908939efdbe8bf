theorem lrk_cg {x k b : Nat} {m m' : pm_M} (h : m b = m' b) : ∀ n, lrk x k m b n b = lrk x k m' b n b
  | 0 => h
  | n + 1 => by unfold lrk; rw [up_r, up_r, lrk_cg h n]
theorem lrw_cg {x k b : Nat} {m m' : pm_M} (h : m b = m' b) : ∀ n, lrw x k m b n b = lrw x k m' b n b
  | 0 => h
  | n + 1 => by unfold lrw; rw [up_r, up_r, lrw_cg h n]
theorem one_out1 {p q : Int32} (h : p < 0 ∨ nI 2 ≤ p) : f_X9_isOne p q = some 0 := by
  unfold f_X9_isOne
  rw [zo_out h, b_some, if_pos rfl]
theorem one_out2 {s : Nat} {q : Int32} (hs : s < 2) (h : q < 0 ∨ nI 4 ≤ q) : f_X9_isOne (nI s) q = some 0 := by
  unfold f_X9_isOne
  rw [zo_in hs, b_some, if_neg (show ¬ (1 : Int32) = 0 by decide)]
  rcases h with h | h
  · rw [if_pos h]
  · have h : (4 : Int32) ≤ q := h
    by_cases c : q < 0
    · rw [if_pos c]
    · rw [if_neg c, if_pos h]
theorem isrow_big {k : Nat} (h : 10000 ≤ k) (hk : k < 2 ^ 31) : f_X1_isRow (nI k) = some 0 := by
  have a : nI 10000 ≤ nI k := nI_le h hk
  unfold f_X1_isRow
  rw [if_neg (Int32.not_lt.mpr (Int32.le_trans (show (123 : Int32) ≤ nI 10000 by decide) a)), if_neg (Int32.not_le.mpr (Int32.lt_of_lt_of_le (show (3210 : Int32) < nI 10000 by decide) a))]
theorem oklikes : ok_likes Rel := by
  intro p1 p2 p3 μ hR
  unfold f_X9_likes f_X10_likes
  rcases in_or p1 (n := 2) (by omega) with h | ⟨s, hs, rfl⟩
  · exact ⟨-1, μ, μ, by rw [one_out1 h, b_some, if_pos rfl], by rw [zi_out h, b_some, if_pos rfl], hR⟩
  rcases in_or p2 (n := 4) (by omega) with h | ⟨o, ho, rfl⟩
  · refine ⟨-1, μ, μ, by rw [one_out2 hs h, b_some, if_pos rfl], ?_, hR⟩
    rw [zi_in hs, b_some, if_neg (show ¬ (1 : Int32) = 0 by decide)]
    rcases h with h | h
    · rw [x10_in_lo h, b_some, if_pos rfl]
    · rw [x10_in_hi (Int32.lt_of_lt_of_le (show (3 : Int32) < nI 4 by decide) h), b_some, if_pos rfl]
  rw [one_in hs ho, b_some, if_neg (show ¬ (1 : Int32) = 0 by decide), zi_in hs, x10_in_in (show (0 : Int32) ≤ nI o from nI_pos' (by omega)) (show nI o ≤ 3 from nI_le (b := 3) (by omega) (by omega))]
  by_cases h0 : p3 < 0
  · refine ⟨-2, μ, μ, ?_, ?_, hR⟩
    · unfold f_X1_isRow
      rw [if_pos (Int32.lt_trans h0 (by decide)), b_some, if_pos rfl]
    · rw [b_some, if_neg (show ¬ (1 : Int32) = 0 by decide), b_some, if_neg (show ¬ (1 : Int32) = 0 by decide)]
      refine it_wp (fun k s => k = 1 ∧ s = (0, p3, 0)) (fun o => o = some (-2, μ)) (fun s h => absurd h.1 (by decide)) (fun k s h T hT => ?_) 5000 1 _ (by omega) ⟨rfl, rfl⟩
      obtain ⟨-, rfl⟩ := h
      unfold f_X10_likes_b29
      dsimp only
      rw [if_neg (show ¬ (4 : Int32) ≤ 0 by decide), if_pos h0, if_neg (show ¬ (0 : Int32) = 15 by decide)]
  obtain ⟨k, hk, rfl⟩ := nI_of h0
  by_cases hb : 10000 ≤ k
  · refine ⟨-2, μ, μ, by rw [isrow_big hb hk, b_some, if_pos rfl], ?_, hR⟩
    rw [b_some, if_neg (show ¬ (1 : Int32) = 0 by decide), b_some, if_neg (show ¬ (1 : Int32) = 0 by decide), m_used hk]
    dsimp only
    rw [if_neg (show ¬ nI (k / 10000) = 0 from nI_ne (c := 0) (by omega) (by omega) (by omega))]
    split <;> rfl
  obtain ⟨l1, l2⟩ := lk_at (show k < 10000 by omega)
  by_cases hr : isR k = true
  · rw [if_pos hr] at l1
    obtain ⟨d, d1, d2, d3⟩ := hR.2.1 s o hs ho
    have e54 : lrk (16 * s + 4 * o) k (pm_up μ 8 (4 * s + o) (nI k)) 9 4 54 = μ 54 := by rw [lrk_o (by decide), up_o (by decide)]
    refine ⟨μ 8 (4 * s + o), lrk (16 * s + 4 * o) k (pm_up μ 8 (4 * s + o) (nI k)) 9 4, lrw (16 * s + 4 * o) k (lrk (16 * s + 4 * o) k (pm_up μ 8 (4 * s + o) (nI k)) 9 4) 54 4, ?_, ?_, ?_⟩
    · rw [l1, b_some, if_neg (show ¬ (1 : Int32) = 0 by decide), x_row hs ho, b_some]
      unfold f_X1_setRow
      rw [one_in hs ho, b_some, if_neg (show ¬ (1 : Int32) = 0 by decide), l1, b_some, if_neg (show ¬ (1 : Int32) = 0 by decide), show (4 : Int32) * nI s + nI o = nI (4 * s + o) by rw [show (4 : Int32) = nI 4 from rfl, pk_mul, nI_add], ck_in (by omega) (by omega), nI_clamp (by omega), let_eq, set_loop hs ho hr, b_some]
    · rw [b_some, if_neg (show ¬ (1 : Int32) = 0 by decide), b_some, if_neg (show ¬ (1 : Int32) = 0 by decide), m_used hk]
      dsimp only
      rw [if_pos (l2.mpr hr), show k / 10000 = 0 by omega, if_pos (show nI 0 = 0 from rfl), m_row (d := d) hs ho (fun i hi => by rw [e54]; exact (d1 i hi).2.1), b_some, row_loop hs ho hr, racc_4, d3]
    · refine Rel_lik hR (fun j a b c => ?_) (likes_R2 hR.2.1 hs ho hr ?_ ?_ ?_)
      · rw [lrw_o c, lrk_o b, up_o a]
      · rw [lrw_o (by decide), lrk_o (by decide), up_r]
      · rw [lrw_o (by decide), lrk_cg (m' := μ) (up_o (by decide)) 4]
      · rw [lrw_cg (m' := μ) e54 4]
  · rw [if_neg hr] at l1
    refine ⟨-2, μ, μ, by rw [l1, b_some, if_pos rfl], ?_, hR⟩
    rw [b_some, if_neg (show ¬ (1 : Int32) = 0 by decide), b_some, if_neg (show ¬ (1 : Int32) = 0 by decide), m_used hk]
    dsimp only
    rw [if_neg (fun z => hr (l2.mp z))]
