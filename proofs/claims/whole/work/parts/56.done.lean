theorem done_cp {μ : pm_M} {E : pm_M → Option (Int32 × pm_M)} : pm_it f_X10_done_b12 5000 (0, μ) E = E (pm_row μ 51 (pre 64 (μ 52) (μ 51))) := by
  refine it_for (fun k => (nI k, pm_row μ 51 (pre k (μ 52) (μ 51)))) 64 (fun k hk T => ?_) (fun T => ?_) 64 0 5000 (by omega) (by omega) |> fun h => (by rw [pre_0, row_id] at h; exact h)
  · show (if (64 : Int32) ≤ nI k then _ else _) = _
    rw [if_neg (show ¬ (64 : Int32) ≤ nI k from nI_ge (b := 64) hk (by omega))]
    dsimp only
    rw [ck_in (by omega) (by omega), ck_in hk (by omega), nI_clamp (by omega), let_eq, row_o (by decide), up_row, pre_s, nI_1]
  · rfl
theorem okB_congr {B B' R R' : Nat → Int32} (h : okB B R) (e : ∀ i, i < 64 → B' i = B i) (f : ∀ i, i < 49 → R' i = R i) : okB B' R' := by
  obtain ⟨h1, h2, h3, h4, h5, h6, h7, h8, h9⟩ := h
  refine ⟨fun a c ha hc => ?_, fun a ha => ?_, fun i hi => ?_, fun i hi => ?_, fun i hi => ?_, ?_, fun a c ha hc => ?_, fun a ha => ?_, fun i hi => ?_⟩
  · rw [e _ (by omega), e _ (by omega)]; exact h1 a c ha hc
  · rw [e _ (by omega)]; exact h2 a ha
  · rw [e _ (by omega)]; exact h3 i hi
  · rw [e _ (by omega)]; exact h4 i hi
  · rw [e _ (by omega)]; exact h5 i hi
  · rw [e _ (by omega)]; exact h6
  · rw [f _ (by omega), f _ (by omega)]; exact h7 a c ha hc
  · rw [f _ (by omega)]; exact h8 a ha
  · rw [f _ (by omega)]; exact h9 i hi
theorem okdone : ok_done Rel := by
  intro μ hR
  obtain ⟨h1, h2, h3, h4, h5, h6⟩ := id hR
  obtain ⟨N, hP, h43, h42, h50⟩ := pad_of h4
  unfold f_X9_done f_X10_done
  rcases scan_rng (P := μ 56) N 0 0 (Nat.zero_add N) with hs | ⟨f, hf, hs⟩
  · obtain ⟨μ1, c1, c2, c3⟩ := can_eq h1 hP h43 h42 hs
    rw [c1, b_some]
    dsimp only
    -- the model, at a memory with the same book, roads and pad
    have hm : ∀ μ', (∀ j, j = 51 ∨ j = 53 ∨ j = 56 ∨ j = 50 → μ' j = μ j) → ∃ ν, frG μ' ν ∧ (((wkOf μ N).1 = (-6, -6) ∧ f_X10_barOfWeeks μ' = some (0, ν) ∧ goFin ν (μ 53) (wkOf μ N)) ∨ ∃ a : Nat, a ≤ 60 ∧ (wkOf μ N).1.1 = nI a ∧ f_X10_barOfWeeks μ' = some (-5, ν)) := by
      intro μ' hμ
      have e51 := hμ 51 (by omega)
      have e53 := hμ 53 (by omega)
      have e56 := hμ 56 (by omega)
      have e50 := hμ 50 (by omega)
      have eW : wkOf μ' N = wkOf μ N := by unfold wkOf; rw [e51, e53, e56]
      obtain ⟨ν, w1, w2⟩ := weeks_eq (μ := μ') (N := N) (by rw [e51, e53]; exact h1.2) (by rw [e56]; exact hP) (by rw [e50]; exact h50) (by rw [e56]; exact hs)
      rw [eW, e53] at w2
      have hf1 : f_X10_faultOf μ' = some (-6) := by rw [mfault (μ := μ') hP (fun i _ => by rw [e56]) (by rw [e50]; exact h50), hs]
      refine ⟨ν, w1, ?_⟩
      unfold f_X10_barOfWeeks
      rcases w2 with ⟨v1, v2, v3⟩ | ⟨a, ha, v1, v2, v3⟩
      · left
        exact ⟨v1, by rw [hf1, b_some, if_neg (by decide), v2, b_some, if_pos (show (-6 : Int32) < 0 by decide)], v3⟩
      · right
        exact ⟨a, ha, v1, by rw [hf1, b_some, if_neg (by decide), v2, b_some, if_neg (nI_pos (by omega))]⟩
    by_cases hw : (wkOf μ N).1.1 = -6
    · rw [if_pos hw, if_neg (by decide)]
      obtain ⟨μ2, d1, d2, d3⟩ := copyM (b := 2) (by omega) c3.1
      rw [d1, b_some]
      unfold f_X3_clear
      rw [let_eq, b_some]
      obtain ⟨μ4, g1, g2⟩ := hm (pm_up μ2 42 1 0) (fun j hj => by rw [up_o (by omega), d3 j (by omega), c2 j (by omega) (by omega)])
      rcases g2 with ⟨v1, v2, v3⟩ | ⟨a, ha, v1, -⟩
      · refine ⟨nI (wkOf μ N).2.2.1, pm_up μ2 42 1 0, pm_up (pm_row μ4 51 (pre 64 (μ4 52) (μ4 51))) 50 6 0, ?_, ?_, ?_⟩
        · rw [up_o (by decide), d3 44 (by omega), c3.2.1]
        · rw [v2, b_some]
          dsimp only
          rw [if_pos (by decide), done_cp, let_eq, up_r, upd_n (by decide), row_o (by decide), v3.2.1]
        · have fo : ∀ j, j ≠ 50 → j ≠ 51 → j ≠ 52 → j ≠ 57 → j ≠ 42 → j ≠ 44 → (j < 37 ∨ 41 < j) → (j < 2 ∨ 6 < j) → pm_up (pm_row μ4 51 (pre 64 (μ4 52) (μ4 51))) 50 6 0 j = μ j := fun j a1 a2 a3 a4 a5 a6 a7 a8 => by
            rw [up_o a1, row_o a2, g1.1 j a1 a3 a4, up_o a5, d3 j (by omega), c2 j a7 a6]
          have fm : ∀ j, 2 ≤ j → j ≤ 6 → pm_up (pm_row μ4 51 (pre 64 (μ4 52) (μ4 51))) 50 6 0 j = μ2 j := fun j a1 a2 => by
            rw [up_o (by omega), row_o (by omega), g1.1 j (by omega) (by omega) (by omega), up_o (by omega)]
          have f51 : pm_up (pm_row μ4 51 (pre 64 (μ4 52) (μ4 51))) 50 6 0 51 = pre 64 (μ4 52) (μ4 51) := by rw [up_o (by decide), row_r]
          have f53 := fo 53 (by decide) (by decide) (by decide) (by decide) (by decide) (by decide) (by omega) (by omega)
          have e51 : ∀ i, i < 64 → pre 64 (μ4 52) (μ4 51) i = (wkOf μ N).2.1 i := fun i hi => by rw [pre_lt hi]; exact v3.1.1 i hi
          have hokW : okB (wkOf μ N).2.1 (μ 53) := wk_ok hP.1 _ _ _ _ _ _ hs h1.2 (Nat.zero_le N)
          refine ⟨⟨?_, ?_⟩, R2_c (fo 8 (by decide) (by decide) (by decide) (by decide) (by decide) (by decide) (by omega) (by omega)) (fo 9 (by decide) (by decide) (by decide) (by decide) (by decide) (by decide) (by omega) (by omega)) (fo 54 (by decide) (by decide) (by decide) (by decide) (by decide) (by decide) (by omega) (by omega)) h2, R3_c (fo 10 (by decide) (by decide) (by decide) (by decide) (by decide) (by decide) (by omega) (by omega)) (fo 11 (by decide) (by decide) (by decide) (by decide) (by decide) (by decide) (by omega) (by omega)) (fo 55 (by decide) (by decide) (by decide) (by decide) (by decide) (by decide) (by omega) (by omega)) ?_ h3, ?_, R5_c (fun j a1 a2 a3 => fo j (by omega) (by omega) (by omega) (by omega) (by omega) (by omega) (by omega) (by omega)) (fo 66 (by decide) (by decide) (by decide) (by decide) (by decide) (by decide) (by omega) (by omega)) (fo 67 (by decide) (by decide) (by decide) (by decide) (by decide) (by decide) (by omega) (by omega)) h5, R6_c (fo 49 (by decide) (by decide) (by decide) (by decide) (by decide) (by decide) (by omega) (by omega)) h6⟩
          · rw [fm 3 (by omega) (by omega), fm 4 (by omega) (by omega), fm 5 (by omega) (by omega), fm 6 (by omega) (by omega), fm 2 (by omega) (by omega), f51, f53]
            obtain ⟨r1, r2, r3, r4, r5⟩ := d2
            exact ⟨fun i hi => (r1 i hi).trans (e51 i (by omega)).symm, r2, fun i hi => (r3 i hi).trans (e51 _ (by omega)).symm, fun i hi => (r4 i hi).trans (e51 _ (by omega)).symm, r5.trans (e51 63 (by omega)).symm⟩
          · rw [f51, f53]
            exact okB_congr hokW e51 (fun _ _ => rfl)
          · rw [up_r, upd_n (by decide), row_o (by decide), g1.2 4 (by decide) (by decide) (by decide) (by decide) (by decide), up_o (by decide), d3 50 (by omega), c2 50 (by omega) (by decide)]
          · refine ⟨0, by omega, ?_, ?_, fun i hi => by omega⟩
            · rw [up_o (by decide), row_o (by decide), g1.1 42 (by decide) (by decide) (by decide), up_r, upd_s]; rfl
            · rw [up_r, upd_s]; rfl
      · exact absurd (v1.symm.trans hw) (nI_m6 (by omega))
    · rw [if_neg hw, if_pos rfl]
      obtain ⟨μ4, g1, g2⟩ := hm μ1 (fun j hj => c2 j (by omega) (by omega))
      rcases g2 with ⟨v1, -⟩ | ⟨a, ha, v1, v2⟩
      · exact absurd (by rw [v1]) hw
      · refine ⟨-5, μ1, μ4, rfl, ?_, Rel_fr ((frW.fr0 c2).tr g1.fr0) hR⟩
        rw [v2, b_some, if_neg (show ¬ (0 : Int32) ≤ (-5 : Int32) by decide)]
  · refine ⟨-5, μ, μ, ?_, ?_, hR⟩
    · unfold f_X7_canBe
      rw [xfault hP h43 h42, hs, b_some, if_neg (nI_m6 (by have := hP.1; omega)), b_some, if_pos rfl]
    · unfold f_X10_barOfWeeks
      rw [mfault hP (fun _ _ => rfl) h50, hs, b_some, if_pos (nI_pos' (by have := hP.1; omega)), b_some, if_neg (show ¬ (0 : Int32) ≤ (-5 : Int32) by decide)]
