theorem m_restore {μ : pm_M} {k : Nat} (hk : k < 2) (hz : ¬ μ 67 k = 0) : ∃ ξ, f_X10_restore (nI k) μ = some (1, ξ) ∧ (∀ j, j ≠ 51 → j ≠ 53 → j ≠ 54 → j ≠ 55 → j ≠ 50 → ξ j = μ j) ∧ ξ 51 = pre 64 (imgB (μ 66) k) (μ 51) ∧ ξ 53 = pre 49 (imgR (μ 66) k) (μ 53) ∧ ξ 54 = pre 32 (imgW (μ 66) k) (μ 54) ∧ ξ 55 = pre 24 (imgS (μ 66) k) (μ 55) ∧ ξ 50 = upd (μ 50) 4 (μ 66 (180 * k + 170)) := by
  unfold f_X10_restore
  rw [zi_in hk, b_some, if_neg (by decide), ck_in hk (by omega), nI_clamp (by omega), if_neg hz, x180, let_eq, re32 hk, re60 hk, re91 hk, re122 hk, show nI (180 * k) + (170 : Int32) = nI (180 * k + 170) from nI_add _ 170, ck_in (show 180 * k + 170 < 360 by omega) (by omega), nI_clamp (by omega), let_eq]
  refine ⟨_, rfl, fun j a b c d e => ?_, ?_, ?_, ?_, ?_, ?_⟩
  · rw [up_o e, row_o d, row_o c, row_o b, row_o a]
  · rw [up_o (by decide), row_o (by decide), row_o (by decide), row_o (by decide), row_r]
  · rw [up_o (by decide), row_o (by decide), row_o (by decide), row_r, row_o (by decide), row_o (by decide)]
  · rw [up_o (by decide), row_o (by decide), row_r]
    simp only [row_o (show (66 : Nat) ≠ 51 by decide), row_o (show (66 : Nat) ≠ 53 by decide), row_o (show (54 : Nat) ≠ 51 by decide), row_o (show (54 : Nat) ≠ 53 by decide)]
  · rw [up_o (by decide), row_r]
    simp only [row_o (show (66 : Nat) ≠ 51 by decide), row_o (show (66 : Nat) ≠ 53 by decide), row_o (show (66 : Nat) ≠ 54 by decide), row_o (show (55 : Nat) ≠ 51 by decide), row_o (show (55 : Nat) ≠ 53 by decide), row_o (show (55 : Nat) ≠ 54 by decide)]
  · rw [up_r]
    simp only [row_o (show (66 : Nat) ≠ 51 by decide), row_o (show (66 : Nat) ≠ 53 by decide), row_o (show (66 : Nat) ≠ 54 by decide), row_o (show (66 : Nat) ≠ 55 by decide), row_o (show (50 : Nat) ≠ 51 by decide), row_o (show (50 : Nat) ≠ 53 by decide), row_o (show (50 : Nat) ≠ 54 by decide), row_o (show (50 : Nat) ≠ 55 by decide)]
theorem okrestore : ok_restore Rel := by
  intro p1 μ hR
  unfold f_X9_restore
  rcases in_or p1 (n := 2) (by omega) with h | ⟨k, hk, rfl⟩
  · exact ⟨-2, μ, μ, by rw [zo_out h, b_some, if_pos rfl], by unfold f_X10_restore; rw [zi_out h, b_some, if_pos rfl], hR⟩
  rw [zo_in hk, b_some, if_neg (by decide)]
  have key : ∀ w, w = 13 + 12 * k → rimg μ w k → ∃ r ν ξ, (if μ w 3 = 0 then (some ((-3 : Int32), μ)) else (f_X8_copyFrom 1 w μ).bind (fun m3 => (some ((1 : Int32), m3)))) = some (r, ν) ∧ f_X10_restore (nI k) ν = some (r, ξ) ∧ Rel ξ := fun w hw hr => by
    obtain ⟨hr1, hr2⟩ := hr
    rcases hr2 with z | ⟨z, hh⟩
    · refine ⟨-3, μ, μ, by rw [if_pos (hr1.trans z)], ?_, hR⟩
      unfold f_X10_restore
      rw [zi_in hk, b_some, if_neg (by decide), ck_in hk (by omega), nI_clamp (by omega), if_pos z]
    have hh : rwh μ w (imgB (μ 66) k) (imgR (μ 66) k) (imgW (μ 66) k) (imgS (μ 66) k) (μ 66 (180 * k + 170)) := hh
    obtain ⟨ν, a1, a2, a3⟩ := cp8 (b := 1) (c := w) (μ := μ) (by omega)
    have hfar : ∀ j, 12 ≤ j → ν j = μ j := fun j hj => a2 j (by omega)
    obtain ⟨ξ, b1, b2, b3, b4, b5, b6, b7⟩ := m_restore (μ := ν) hk (by rw [hfar 67 (by decide), z]; decide)
    refine ⟨1, ν, ξ, by rw [if_neg (by rw [hr1, z]; decide), a1, b_some], b1, ?_⟩
    have hx : ∀ j, 12 ≤ j → j ≠ 51 → j ≠ 53 → j ≠ 54 → j ≠ 55 → j ≠ 50 → ξ j = μ j := fun j h0 h1 h2 h3 h4 h5 => (b2 j h1 h2 h3 h4 h5).trans (hfar j h0)
    have hcp : cpd ξ 1 μ w := by
      obtain ⟨c1, c2, c3, c4, c5, c6, c7, c8, c9, c10⟩ := a3
      refine ⟨fun i hi => ?_, fun i hi => ?_, fun i hi => ?_, fun i hi => ?_, ?_, fun i hi => ?_, fun i hi => ?_, fun i hi => ?_, ?_, ?_⟩ <;> rw [b2 _ (by decide) (by decide) (by decide) (by decide) (by decide)]
      · exact c1 i hi
      · exact c2 i hi
      · exact c3 i hi
      · exact c4 i hi
      · exact c5
      · exact c6 i hi
      · exact c7 i hi
      · exact c8 i hi
      · exact c9
      · exact c10
    have h66 : ν 66 = μ 66 := hfar 66 (by decide)
    refine Rel_wh (rwh_cg hh hcp (fun i hi => ?_) (fun i hi => ?_) (fun i hi => ?_) (fun i hi => ?_) ?_) ?_ ?_ ?_
    · rw [b3, pre_lt hi, h66]
    · rw [b4, pre_lt hi, h66]
    · rw [b5, pre_lt hi, h66]
    · rw [b6, pre_lt hi, h66]
    · rw [b7, upd_s, h66]
    · exact R4_c (hx 42 (by decide) (by decide) (by decide) (by decide) (by decide) (by decide)) (hx 43 (by decide) (by decide) (by decide) (by decide) (by decide) (by decide)) (hx 56 (by decide) (by decide) (by decide) (by decide) (by decide) (by decide)) (by rw [b7, upd_n (by decide), hfar 50 (by decide)]) hR.2.2.2.1
    · exact R5_c (fun j h1 h2 h3 => hx j (by omega) (by omega) (by omega) (by omega) (by omega) (by omega)) (hx 66 (by decide) (by decide) (by decide) (by decide) (by decide) (by decide)) (hx 67 (by decide) (by decide) (by decide) (by decide) (by decide) (by decide)) hR.2.2.2.2.1
    · exact R6_c (hx 49 (by decide) (by decide) (by decide) (by decide) (by decide) (by decide)) hR.2.2.2.2.2
  rcases (show k = 0 ∨ k = 1 by omega) with rfl | rfl
  · obtain ⟨r, ν, ξ, a, b, c⟩ := key 13 rfl hR.2.2.2.2.1.1
    exact ⟨r, ν, ξ, by rw [if_pos (show nI 0 = 0 from rfl)]; exact a, b, c⟩
  · obtain ⟨r, ν, ξ, a, b, c⟩ := key 25 rfl hR.2.2.2.2.1.2
    exact ⟨r, ν, ξ, by rw [if_neg (by decide)]; exact a, b, c⟩
