theorem draw_eq {b : Nat} {μ : pm_M} {B R : Nat → Int32} {x Y : Nat} (hr : repM μ b B R) (hok : okB B R) (hx : x < 65537) (hY : Y ≤ 99) : ∃ ν, f_X2_drawActs b (nI x) (nI Y) μ = some ν ∧ repM ν b (yrA R Y x B) R ∧ frM b μ ν := by
  unfold f_X2_drawActs
  refine it_wp (fun k s => ∃ i y ν B', s = (nI y, nI i, ν) ∧ i + k = Y + 1 ∧ i ≤ Y ∧ y < 65537 ∧ repM ν b B' R ∧ okB B' R ∧ frM b μ ν ∧ yrA R (Y - i) y B' = yrA R Y x B) (fun o => ∃ ν, o = some ν ∧ repM ν b (yrA R Y x B) R ∧ frM b μ ν) (fun s h => by obtain ⟨i, x, ν, B', -, h1, h2, -⟩ := h; omega) (fun k s h T hT => ?_) 5000 (Y + 1) _ (by omega) ⟨0, x, μ, B, rfl, by omega, by omega, hx, hr, hok, fun _ _ => rfl, rfl⟩
  obtain ⟨i, y, ν, B', rfl, e1, e2, e3, e4, e5, e6, e7⟩ := h
  unfold f_X2_drawActs_b5
  dsimp only
  by_cases q : i = Y
  · subst q
    rw [if_pos (nI_le (Nat.le_refl i) (by omega))]
    rw [Nat.sub_self] at e7
    have e7 : B' = yrA R i x B := e7
    rw [← e7]
    exact ⟨ν, rfl, e4, e6⟩
  have hi : i < Y := by omega
  have hl := lcg_lt y
  rw [show Y - i = (Y - (i + 1)) + 1 by omega] at e7
  have e7 : yrA R (Y - (i + 1)) (lcg y) (stepY R B' (lcg y)) = yrA R Y x B := e7
  have hg := yrng (lcg y)
  rw [if_neg (nI_ge hi (by omega)), lcg_eq e3, let_eq, d7 hl, r8 (by omega), drk _ (by omega), b_some, d56 hl, let_eq, nYj (kindY_le _) (by omega), r7 hl, whyX e4 e5 hg, b_some, jn_eq, nI_1]
  have hw := whyA_le B' R (kindY (lcg y / 7 % 8)) (lcg y % 7) (numY (kindY (lcg y / 7 % 8)) (lcg y / 56))
  by_cases q2 : whyA B' R (kindY (lcg y / 7 % 8)) (lcg y % 7) (numY (kindY (lcg y / 7 % 8)) (lcg y / 56)) = 0
  · obtain ⟨ξ, p1, p2, p3⟩ := perfX e4 e5 hg q2
    rw [if_pos (by rw [q2]; rfl), p1, b_some]
    refine hT _ ⟨i + 1, lcg y, ξ, stepY R B' (lcg y), rfl, by omega, by omega, hl, ?_, stepY_ok e5, fun j hj => (p3 j hj).trans (e6 j hj), e7⟩
    unfold stepY
    rw [if_pos q2]
    exact p2
  · rw [if_neg (show ¬ nI _ = 0 from nI_ne (c := 0) q2 (by omega) (by omega))]
    refine hT _ ⟨i + 1, lcg y, ν, stepY R B' (lcg y), rfl, by omega, by omega, hl, ?_, stepY_ok e5, e6, e7⟩
    unfold stepY
    rw [if_neg q2]
    exact e4
