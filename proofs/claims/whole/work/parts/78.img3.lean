theorem Rel_wh {μ : pm_M} (h : rwh μ 1 (μ 51) (μ 53) (μ 54) (μ 55) (μ 50 4)) (h4 : R4 μ) (h5 : R5 μ) (h6 : R6 μ) : Rel μ := ⟨⟨h.1, h.2.1⟩, h.2.2.1, h.2.2.2, h4, h5, h6⟩
theorem wh_Rel {μ : pm_M} (h : Rel μ) : rwh μ 1 (μ 51) (μ 53) (μ 54) (μ 55) (μ 50 4) := ⟨h.1.1, h.1.2, h.2.1, h.2.2.1⟩
/-- what the model's image puts into its row -/
def img66 (μ : pm_M) (k : Nat) : Nat → Int32 := upd (blk (180 * k + 145) 24 (μ 55) (blk (180 * k + 113) 32 (μ 54) (blk (180 * k + 64) 49 (μ 53) (blk (180 * k) 64 (μ 51) (μ 66))))) (180 * k + 170) (μ 50 4)
theorem m_image {μ : pm_M} {k : Nat} (hk : k < 2) : ∃ ξ, f_X10_image (nI k) μ = some (1, ξ) ∧ (∀ j, j ≠ 66 → j ≠ 67 → ξ j = μ j) ∧ ξ 66 = img66 μ k ∧ ξ 67 = upd (μ 67) k 1 := by
  unfold f_X10_image
  rw [zi_in hk, b_some, if_neg (by decide), x180, let_eq, im20 hk, im48 hk, im79 hk, im110 hk, show nI (180 * k) + (170 : Int32) = nI (180 * k + 170) from nI_add _ 170, ck_in (show 180 * k + 170 < 360 by omega) (by omega), nI_clamp (by omega), let_eq, ck_in hk (by omega), nI_clamp (by omega), let_eq]
  refine ⟨_, rfl, fun j a b => ?_, ?_, ?_⟩
  · rw [up_o b, up_o a, row_o a, row_o a, row_o a, row_o a]
  · rw [up_o (by decide), up_r]
    unfold img66
    simp only [row_r, row_o (show (55 : Nat) ≠ 66 by decide), row_o (show (54 : Nat) ≠ 66 by decide), row_o (show (53 : Nat) ≠ 66 by decide), row_o (show (50 : Nat) ≠ 66 by decide)]
  · rw [up_r, up_o (by decide), row_o (by decide), row_o (by decide), row_o (by decide), row_o (by decide)]
theorem img66_B {μ : pm_M} {k i : Nat} (hi : i < 64) : imgB (img66 μ k) k i = μ 51 i := by
  unfold imgB img66
  rw [upd_n (by omega), blk_out (by omega), blk_out (by omega), blk_out (by omega), blk_in hi]
theorem img66_R {μ : pm_M} {k i : Nat} (hi : i < 49) : imgR (img66 μ k) k i = μ 53 i := by
  unfold imgR img66
  rw [upd_n (by omega), blk_out (by omega), blk_out (by omega), blk_in hi]
theorem img66_W {μ : pm_M} {k i : Nat} (hi : i < 32) : imgW (img66 μ k) k i = μ 54 i := by
  unfold imgW img66
  rw [upd_n (by omega), blk_out (by omega), blk_in hi]
theorem img66_S {μ : pm_M} {k i : Nat} (hi : i < 24) : imgS (img66 μ k) k i = μ 55 i := by
  unfold imgS img66
  rw [upd_n (by omega), blk_in hi]
theorem img66_o {μ : pm_M} {k l i : Nat} (hk : k < 2) (hl : l < 2) (h : l ≠ k) (hi : i < 171) : img66 μ k (180 * l + i) = μ 66 (180 * l + i) := by
  unfold img66
  rw [upd_n (by omega), blk_out (by omega), blk_out (by omega), blk_out (by omega), blk_out (by omega)]
theorem rimg_new {μ ν ξ : pm_M} {w k : Nat} (hR : Rel μ) (hc : cpd ν w μ 1) (h3 : ν w 3 = 1) (ho : ∀ j, 50 ≤ j → ν j = μ j) (g1 : ∀ j, j ≠ 66 → j ≠ 67 → ξ j = ν j) (g2 : ξ 66 = img66 ν k) (g3 : ξ 67 = upd (ν 67) k 1) (hw : w + 10 < 50) : rimg ξ w k := by
  have h67 : ξ 67 k = 1 := by rw [g3, upd_s]
  refine ⟨by rw [h67, g1 w (by omega) (by omega)]; exact h3, Or.inr ⟨h67, ?_⟩⟩
  have hx : cpd ξ w μ 1 := by
    obtain ⟨c1, c2, c3, c4, c5, c6, c7, c8, c9, c10⟩ := hc
    refine ⟨fun i hi => ?_, fun i hi => ?_, fun i hi => ?_, fun i hi => ?_, ?_, fun i hi => ?_, fun i hi => ?_, fun i hi => ?_, ?_, ?_⟩ <;> rw [g1 _ (by omega) (by omega)]
    · exact c1 i hi
    · exact c2 i hi
    · exact c3 i hi
    · exact c4 i hi
    · exact c5
    · exact c6 i hi
    · exact c7 i hi
    · exact c8 i hi
    · exact c9
    · exact c10
  have hn : rwh ξ w (imgB (ξ 66) k) (imgR (ξ 66) k) (imgW (ξ 66) k) (imgS (ξ 66) k) (ξ 66 (180 * k + 170)) := by
    rw [g2]
    refine rwh_cg (wh_Rel hR) hx (fun i hi => ?_) (fun i hi => ?_) (fun i hi => ?_) (fun i hi => ?_) ?_
    · rw [img66_B hi, ho 51 (by decide)]
    · rw [img66_R hi, ho 53 (by decide)]
    · rw [img66_W hi, ho 54 (by decide)]
    · rw [img66_S hi, ho 55 (by decide)]
    · unfold img66
      rw [upd_s, ho 50 (by decide)]
  exact hn
theorem okimage : ok_image Rel := by
  intro p1 μ hR
  unfold f_X9_image
  rcases in_or p1 (n := 2) (by omega) with h | ⟨k, hk, rfl⟩
  · exact ⟨-2, μ, μ, by rw [zo_out h, b_some, if_pos rfl], by unfold f_X10_image; rw [zi_out h, b_some, if_pos rfl], hR⟩
  rw [zo_in hk, b_some, if_neg (by decide)]
  have key : ∀ w, w = 13 + 12 * k → ∃ ν ξ, (f_X8_copyFrom w 1 μ).bind (fun m4 => pm_let (pm_up m4 w 3 (1 : Int32)) (fun m5 => (some ((1 : Int32), m5)))) = some (1, ν) ∧ f_X10_image (nI k) ν = some (1, ξ) ∧ Rel ξ := fun w hw => by
    obtain ⟨ν, a1, a2, a3⟩ := cp8 (b := w) (c := 1) (μ := μ) (by omega)
    obtain ⟨ξ, b1, b2, b3, b4⟩ := m_image (μ := pm_up ν w 3 1) hk
    refine ⟨pm_up ν w 3 1, ξ, by rw [a1, b_some, let_eq], b1, ?_⟩
    have hfar : ∀ j, (j < w ∨ w + 10 < j) → pm_up ν w 3 1 j = μ j := fun j hj => by rw [up_o (by omega), a2 j (by omega)]
    have hx : ∀ j, (j < w ∨ w + 10 < j) → j ≠ 66 → j ≠ 67 → ξ j = μ j := fun j hj h1 h2 => (b2 j h1 h2).trans (hfar j hj)
    have hcp : cpd (pm_up ν w 3 1) w μ 1 := by
      obtain ⟨c1, c2, c3, c4, c5, c6, c7, c8, c9, c10⟩ := a3
      refine ⟨fun i hi => ?_, fun i hi => ?_, fun i hi => ?_, fun i hi => ?_, ?_, fun i hi => ?_, fun i hi => ?_, fun i hi => ?_, ?_, ?_⟩ <;> rw [up_o (by omega)]
      · exact c1 i hi
      · exact c2 i hi
      · exact c3 i hi
      · exact c4 i hi
      · exact c5
      · exact c6 i hi
      · exact c7 i hi
      · exact c8 i hi
      · exact c9
      · exact c10
    have hnew : rimg ξ w k := rimg_new hR hcp (by rw [up_r, upd_s]) (fun j hj => hfar j (by omega)) b2 b3 b4 (by omega)
    have hold : ∀ l v, l < 2 → l ≠ k → v = 13 + 12 * l → rimg μ v l → rimg ξ v l := fun l v hl hne hv hr => rimg_cg hr (fun j h1 h2 => hx j (by omega) (by omega) (by omega)) (fun i hi => by rw [b3, img66_o hk hl hne hi, hfar 66 (by omega)]) (by rw [b4, upd_n hne, hfar 67 (by omega)])
    refine ⟨R1_c (hx 2 (by omega) (by decide) (by decide)) (hx 3 (by omega) (by decide) (by decide)) (hx 4 (by omega) (by decide) (by decide)) (hx 5 (by omega) (by decide) (by decide)) (hx 6 (by omega) (by decide) (by decide)) (hx 51 (by omega) (by decide) (by decide)) (hx 53 (by omega) (by decide) (by decide)) hR.1, R2_c (hx 8 (by omega) (by decide) (by decide)) (hx 9 (by omega) (by decide) (by decide)) (hx 54 (by omega) (by decide) (by decide)) hR.2.1, R3_c (hx 10 (by omega) (by decide) (by decide)) (hx 11 (by omega) (by decide) (by decide)) (hx 55 (by omega) (by decide) (by decide)) (by rw [hx 50 (by omega) (by decide) (by decide)]) hR.2.2.1, R4_c (hx 42 (by omega) (by decide) (by decide)) (hx 43 (by omega) (by decide) (by decide)) (hx 56 (by omega) (by decide) (by decide)) (by rw [hx 50 (by omega) (by decide) (by decide)]) hR.2.2.2.1, ?_, R6_c (hx 49 (by omega) (by decide) (by decide)) hR.2.2.2.2.2⟩
    rcases (show k = 0 ∨ k = 1 by omega) with rfl | rfl
    · have : w = 13 := hw
      subst this
      exact ⟨hnew, hold 1 25 (by decide) (by decide) rfl hR.2.2.2.2.1.2⟩
    · have : w = 25 := hw
      subst this
      exact ⟨hold 0 13 (by decide) (by decide) rfl hR.2.2.2.2.1.1, hnew⟩
  rcases (show k = 0 ∨ k = 1 by omega) with rfl | rfl
  · obtain ⟨ν, ξ, a, b, c⟩ := key 13 rfl
    exact ⟨1, ν, ξ, by rw [if_pos (show nI 0 = 0 from rfl)]; exact a, b, c⟩
  · obtain ⟨ν, ξ, a, b, c⟩ := key 25 rfl
    exact ⟨1, ν, ξ, by rw [if_neg (by decide)]; exact a, b, c⟩
