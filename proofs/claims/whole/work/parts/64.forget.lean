/-! FORGET -/
theorem fit0 (sg : Nat → Int32) : fitL sg 0 = List.range 410 := List.filter_eq_self.mpr (fun _ _ => rfl)
theorem clear_loop {b : Nat} {μ : pm_M} {E : pm_M → Option pm_M} : pm_it (f_X6_clear_b2 b) 5000 (0, μ) E = E (pm_row μ (b + 1) (pre 410 (fun i => nI i) (μ (b + 1)))) := by
  refine it_for (fun k => (nI k, pm_row μ (b + 1) (pre k (fun i => nI i) (μ (b + 1))))) 410 (fun k hk T => ?_) (fun T => ?_) 410 0 5000 (by omega) (by omega) |> fun h => (by rw [pre_0, row_id] at h; exact h)
  · show (if (410 : Int32) ≤ nI k then _ else _) = _
    rw [if_neg (show ¬ (410 : Int32) ≤ nI k from nI_ge (b := 410) hk (by omega))]
    dsimp only
    rw [ck_in hk (by omega), nI_clamp (by omega), let_eq, up_row, pre_s k (fun i => nI i), nI_1]
  · rfl
theorem okforget : ok_forget Rel := by
  intro μ hR
  obtain ⟨N, hN, e1, e2, -⟩ := id hR.2.2.1
  unfold f_X9_forget f_X10_forget f_X6_clear
  rw [let_eq, clear_loop, let_eq, let_eq, b_some]
  refine ⟨nI N, pm_up (pm_up (pm_row μ 11 (pre 410 (fun i => nI i) (μ 11))) 10 2 410) 10 3 0, pm_up (pm_up (pm_up (pm_row μ 11 (pre 410 (fun i => nI i) (μ 11))) 10 2 410) 10 3 0) 50 4 0, by rw [e1], ?_, ?_⟩
  · rw [let_eq, let_eq, up_o (by decide), up_o (by decide), row_o (by decide), e2]
  · refine Rel_sig hR (fun j a b c d => ?_) ?_ ?_
    · rw [up_o d, up_o a, up_o a, row_o b]
    · rw [up_r, upd_n (by decide), up_o (by decide), up_o (by decide), row_o (by decide)]
    · refine ⟨0, by omega, ?_, ?_, fun j hj => by omega, ?_, fun k x hx => ?_⟩
      · rw [up_o (by decide), up_r, upd_s]; rfl
      · rw [up_r, upd_s]; rfl
      · rw [up_o (by decide), up_r, upd_n (by decide), up_r, upd_s, fit0, List.length_range]; rfl
      · rw [fit0] at hx
        obtain ⟨hk, e⟩ := List.getElem?_eq_some_iff.mp hx
        rw [List.getElem_range] at e
        rw [List.length_range] at hk
        rw [up_o (by decide), up_o (by decide), up_o (by decide), row_r, pre_lt hk, e]
