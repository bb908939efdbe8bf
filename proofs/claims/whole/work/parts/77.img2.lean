def blk (o n : Nat) (f g : Nat → Int32) : Nat → Int32 := fun i => if o ≤ i ∧ i < o + n then f (i - o) else g i
theorem blk_0 (o : Nat) (f g : Nat → Int32) : blk o 0 f g = g := by
  funext i
  unfold blk
  rw [if_neg (by omega)]
theorem blk_s (o n : Nat) (f g : Nat → Int32) : upd (blk o n f g) (o + n) (f n) = blk o (n + 1) f g := by
  funext i
  unfold blk upd
  by_cases h : i = o + n
  · rw [if_pos h, if_pos (by omega), h, show o + n - o = n by omega]
  · rw [if_neg h]
    dsimp only
    by_cases g : o ≤ i ∧ i < o + n
    · rw [if_pos g, if_pos (by omega)]
    · rw [if_neg g, if_neg (by omega)]
theorem blk_in {o n i : Nat} {f g : Nat → Int32} (h : i < n) : blk o n f g (o + i) = f i := by
  unfold blk
  rw [if_pos (by omega), show o + i - o = i by omega]
theorem blk_out {o n i : Nat} {f g : Nat → Int32} (h : i < o ∨ o + n ≤ i) : blk o n f g i = g i := by
  unfold blk
  rw [if_neg (by omega)]
theorem x180 (k : Nat) : (180 : Int32) * nI k = nI (180 * k) := pk_mul 180 k
theorem im20 {m : pm_M} {k : Nat} (hk : k < 2) {E : pm_M → Option (Int32 × pm_M)} : pm_it (f_X10_image_b20 (nI (180 * k))) 5000 (0, m) E = E (pm_row m 66 (blk (180 * k) 64 (m 51) (m 66))) := by
  refine it_for (fun j => (nI j, pm_row m 66 (blk (180 * k) j (m 51) (m 66)))) 64 (fun j hj T => ?_) (fun T => ?_) 64 0 5000 (by omega) (by omega) |> fun h => (by rw [blk_0, row_id] at h; exact h)
  · show (if (64 : Int32) ≤ nI j then _ else _) = _
    rw [if_neg (show ¬ (64 : Int32) ≤ nI j from nI_ge (b := 64) hj (by omega))]
    dsimp only
    rw [nI_add, ck_in hj (by omega), ck_in (show 180 * k + j < 360 by omega) (by omega), nI_clamp (by omega), nI_clamp (by omega), let_eq, row_o (show 51 ≠ 66 by decide), up_row, blk_s, nI_1]
  · rfl
theorem im48 {m : pm_M} {k : Nat} (hk : k < 2) {E : pm_M → Option (Int32 × pm_M)} : pm_it (f_X10_image_b48 (nI (180 * k))) 5000 (0, m) E = E (pm_row m 66 (blk (180 * k + 64) 49 (m 53) (m 66))) := by
  refine it_for (fun j => (nI j, pm_row m 66 (blk (180 * k + 64) j (m 53) (m 66)))) 49 (fun j hj T => ?_) (fun T => ?_) 49 0 5000 (by omega) (by omega) |> fun h => (by rw [blk_0, row_id] at h; exact h)
  · show (if (49 : Int32) ≤ nI j then _ else _) = _
    rw [if_neg (show ¬ (49 : Int32) ≤ nI j from nI_ge (b := 49) hj (by omega))]
    dsimp only
    rw [show nI (180 * k) + (64 : Int32) = nI (180 * k + 64) from nI_add _ 64, nI_add, ck_in hj (by omega), ck_in (show 180 * k + 64 + j < 360 by omega) (by omega), nI_clamp (by omega), nI_clamp (by omega), let_eq, row_o (show 53 ≠ 66 by decide), up_row, blk_s, nI_1]
  · rfl
theorem im79 {m : pm_M} {k : Nat} (hk : k < 2) {E : pm_M → Option (Int32 × pm_M)} : pm_it (f_X10_image_b79 (nI (180 * k))) 5000 (0, m) E = E (pm_row m 66 (blk (180 * k + 113) 32 (m 54) (m 66))) := by
  refine it_for (fun j => (nI j, pm_row m 66 (blk (180 * k + 113) j (m 54) (m 66)))) 32 (fun j hj T => ?_) (fun T => ?_) 32 0 5000 (by omega) (by omega) |> fun h => (by rw [blk_0, row_id] at h; exact h)
  · show (if (32 : Int32) ≤ nI j then _ else _) = _
    rw [if_neg (show ¬ (32 : Int32) ≤ nI j from nI_ge (b := 32) hj (by omega))]
    dsimp only
    rw [show nI (180 * k) + (113 : Int32) = nI (180 * k + 113) from nI_add _ 113, nI_add, ck_in hj (by omega), ck_in (show 180 * k + 113 + j < 360 by omega) (by omega), nI_clamp (by omega), nI_clamp (by omega), let_eq, row_o (show 54 ≠ 66 by decide), up_row, blk_s, nI_1]
  · rfl
theorem im110 {m : pm_M} {k : Nat} (hk : k < 2) {E : pm_M → Option (Int32 × pm_M)} : pm_it (f_X10_image_b110 (nI (180 * k))) 5000 (0, m) E = E (pm_row m 66 (blk (180 * k + 145) 24 (m 55) (m 66))) := by
  refine it_for (fun j => (nI j, pm_row m 66 (blk (180 * k + 145) j (m 55) (m 66)))) 24 (fun j hj T => ?_) (fun T => ?_) 24 0 5000 (by omega) (by omega) |> fun h => (by rw [blk_0, row_id] at h; exact h)
  · show (if (24 : Int32) ≤ nI j then _ else _) = _
    rw [if_neg (show ¬ (24 : Int32) ≤ nI j from nI_ge (b := 24) hj (by omega))]
    dsimp only
    rw [show nI (180 * k) + (145 : Int32) = nI (180 * k + 145) from nI_add _ 145, nI_add, ck_in hj (by omega), ck_in (show 180 * k + 145 + j < 360 by omega) (by omega), nI_clamp (by omega), nI_clamp (by omega), let_eq, row_o (show 55 ≠ 66 by decide), up_row, blk_s, nI_1]
  · rfl
theorem re32 {m : pm_M} {k : Nat} (hk : k < 2) {E : pm_M → Option (Int32 × pm_M)} : pm_it (f_X10_restore_b32 (nI (180 * k))) 5000 (0, m) E = E (pm_row m 51 (pre 64 (imgB (m 66) k) (m 51))) := by
  refine it_for (fun j => (nI j, pm_row m 51 (pre j (imgB (m 66) k) (m 51)))) 64 (fun j hj T => ?_) (fun T => ?_) 64 0 5000 (by omega) (by omega) |> fun h => (by rw [pre_0, row_id] at h; exact h)
  · show (if (64 : Int32) ≤ nI j then _ else _) = _
    rw [if_neg (show ¬ (64 : Int32) ≤ nI j from nI_ge (b := 64) hj (by omega))]
    dsimp only
    rw [nI_add, ck_in (show 180 * k + j < 360 by omega) (by omega), ck_in hj (by omega), nI_clamp (by omega), nI_clamp (by omega), let_eq, row_o (show 66 ≠ 51 by decide), up_row, show m 66 (180 * k + j) = imgB (m 66) k j from rfl, pre_s, nI_1]
  · rfl
theorem re60 {m : pm_M} {k : Nat} (hk : k < 2) {E : pm_M → Option (Int32 × pm_M)} : pm_it (f_X10_restore_b60 (nI (180 * k))) 5000 (0, m) E = E (pm_row m 53 (pre 49 (imgR (m 66) k) (m 53))) := by
  refine it_for (fun j => (nI j, pm_row m 53 (pre j (imgR (m 66) k) (m 53)))) 49 (fun j hj T => ?_) (fun T => ?_) 49 0 5000 (by omega) (by omega) |> fun h => (by rw [pre_0, row_id] at h; exact h)
  · show (if (49 : Int32) ≤ nI j then _ else _) = _
    rw [if_neg (show ¬ (49 : Int32) ≤ nI j from nI_ge (b := 49) hj (by omega))]
    dsimp only
    rw [show nI (180 * k) + (64 : Int32) = nI (180 * k + 64) from nI_add _ 64, nI_add, ck_in (show 180 * k + 64 + j < 360 by omega) (by omega), ck_in hj (by omega), nI_clamp (by omega), nI_clamp (by omega), let_eq, row_o (show 66 ≠ 53 by decide), up_row, show m 66 (180 * k + 64 + j) = imgR (m 66) k j from rfl, pre_s, nI_1]
  · rfl
theorem re91 {m : pm_M} {k : Nat} (hk : k < 2) {E : pm_M → Option (Int32 × pm_M)} : pm_it (f_X10_restore_b91 (nI (180 * k))) 5000 (0, m) E = E (pm_row m 54 (pre 32 (imgW (m 66) k) (m 54))) := by
  refine it_for (fun j => (nI j, pm_row m 54 (pre j (imgW (m 66) k) (m 54)))) 32 (fun j hj T => ?_) (fun T => ?_) 32 0 5000 (by omega) (by omega) |> fun h => (by rw [pre_0, row_id] at h; exact h)
  · show (if (32 : Int32) ≤ nI j then _ else _) = _
    rw [if_neg (show ¬ (32 : Int32) ≤ nI j from nI_ge (b := 32) hj (by omega))]
    dsimp only
    rw [show nI (180 * k) + (113 : Int32) = nI (180 * k + 113) from nI_add _ 113, nI_add, ck_in (show 180 * k + 113 + j < 360 by omega) (by omega), ck_in hj (by omega), nI_clamp (by omega), nI_clamp (by omega), let_eq, row_o (show 66 ≠ 54 by decide), up_row, show m 66 (180 * k + 113 + j) = imgW (m 66) k j from rfl, pre_s, nI_1]
  · rfl
theorem re122 {m : pm_M} {k : Nat} (hk : k < 2) {E : pm_M → Option (Int32 × pm_M)} : pm_it (f_X10_restore_b122 (nI (180 * k))) 5000 (0, m) E = E (pm_row m 55 (pre 24 (imgS (m 66) k) (m 55))) := by
  refine it_for (fun j => (nI j, pm_row m 55 (pre j (imgS (m 66) k) (m 55)))) 24 (fun j hj T => ?_) (fun T => ?_) 24 0 5000 (by omega) (by omega) |> fun h => (by rw [pre_0, row_id] at h; exact h)
  · show (if (24 : Int32) ≤ nI j then _ else _) = _
    rw [if_neg (show ¬ (24 : Int32) ≤ nI j from nI_ge (b := 24) hj (by omega))]
    dsimp only
    rw [show nI (180 * k) + (145 : Int32) = nI (180 * k + 145) from nI_add _ 145, nI_add, ck_in (show 180 * k + 145 + j < 360 by omega) (by omega), ck_in hj (by omega), nI_clamp (by omega), nI_clamp (by omega), let_eq, row_o (show 66 ≠ 55 by decide), up_row, show m 66 (180 * k + 145 + j) = imgS (m 66) k j from rfl, pre_s, nI_1]
  · rfl
