/-! the model's year -/
def frY (μ ν : pm_M) : Prop := (∀ j, j ≠ 50 → j ≠ 52 → ν j = μ j) ∧ ∀ k, k ≠ 8 → k ≠ 12 → ν 50 k = μ 50 k
theorem mact_1 {μ : pm_M} {B R : Nat → Int32} {a n : Nat} {o : Option (Int32 × pm_M)} (h : mact μ B R 1 a 0 o) : mact μ B R 1 a n o := by
  unfold mact at *
  have e : ∀ n, milA B R 1 a n = 0 := fun n => by unfold milA; rw [if_neg (by decide)]
  rw [whyA_1, doA_1, e] at *
  exact h
theorem mact_3 {μ : pm_M} {B R : Nat → Int32} {a n : Nat} {o : Option (Int32 × pm_M)} (h : mact μ B R 3 0 n o) : mact μ B R 3 a n o := by
  unfold mact at *
  have e : ∀ a, milA B R 3 a n = 0 := fun a => by unfold milA; rw [if_neg (by decide)]
  rw [whyA_3, doA_3, e] at *
  exact h
theorem year_loop {μ0 : pm_M} {B R : Nat → Int32} {x Y : Nat} {E : pm_M → Option (Int32 × pm_M)} (Q : Option (Int32 × pm_M) → Prop) {μ : pm_M} (hf : frY μ0 μ) (hr : repN μ B R) (hok : okB B R) (hx : x < 65537) (hY : Y ≤ 99) (hE : ∀ ν, frY μ0 ν → repN ν (yrA R Y x B) R → Q (E ν)) : Q (pm_it (f_X10_year_b43 (nI Y)) 5000 (nI x, 0, μ) E) := by
  refine it_wp (fun k s => ∃ i y ν B', s = (nI y, nI i, ν) ∧ i + k = Y + 1 ∧ i ≤ Y ∧ y < 65537 ∧ repN ν B' R ∧ okB B' R ∧ frY μ0 ν ∧ yrA R (Y - i) y B' = yrA R Y x B) Q (fun s h => by obtain ⟨i, x, ν, B', -, h1, h2, -⟩ := h; omega) (fun k s h T hT => ?_) 5000 (Y + 1) _ (by omega) ⟨0, x, μ, B, rfl, by omega, by omega, hx, hr, hok, hf, rfl⟩
  obtain ⟨i, y, ν, B', rfl, e1, e2, e3, e4, e5, e6, e7⟩ := h
  unfold f_X10_year_b43
  dsimp only
  by_cases q : i = Y
  · subst q
    rw [if_pos (nI_le (Nat.le_refl i) (by omega))]
    rw [Nat.sub_self] at e7
    have e7 : B' = yrA R i x B := e7
    exact hE ν e6 (e7 ▸ e4)
  have hi : i < Y := by omega
  have hl := lcg_lt y
  rw [show Y - i = (Y - (i + 1)) + 1 by omega] at e7
  have e7 : yrA R (Y - (i + 1)) (lcg y) (stepY R B' (lcg y)) = yrA R Y x B := e7
  rw [if_neg (nI_ge hi (by omega)), lcg_eq e3, let_eq, r7 hl, let_eq, d7 hl, r8 (by omega), let_eq, d56 hl, let_eq, r7 (by omega), r3 (by omega), jn_eq, nI_1]
  have tail : ∀ η, frN ν η → (whyA B' R (kindY (lcg y / 7 % 8)) (lcg y % 7) (numY (kindY (lcg y / 7 % 8)) (lcg y / 56)) = 0 → repN η (doA B' (kindY (lcg y / 7 % 8)) (lcg y % 7) (numY (kindY (lcg y / 7 % 8)) (lcg y / 56))) R ∧ η 50 8 = ν 50 8 + milA B' R (kindY (lcg y / 7 % 8)) (lcg y % 7) (numY (kindY (lcg y / 7 % 8)) (lcg y / 56))) → (¬ whyA B' R (kindY (lcg y / 7 % 8)) (lcg y % 7) (numY (kindY (lcg y / 7 % 8)) (lcg y / 56)) = 0 → η = ν) → ∀ w, Q (T (nI (lcg y), nI (i + 1), pm_up η 50 12 w)) := by
    intro η h1 h2 h3 w
    refine hT _ ⟨i + 1, lcg y, _, stepY R B' (lcg y), rfl, by omega, by omega, hl, ?_, stepY_ok e5, ⟨fun j a b => ?_, fun k a b => ?_⟩, e7⟩
    · unfold repN
      rw [up_o (by decide), up_o (by decide)]
      unfold stepY
      by_cases q2 : whyA B' R (kindY (lcg y / 7 % 8)) (lcg y % 7) (numY (kindY (lcg y / 7 % 8)) (lcg y / 56)) = 0
      · rw [if_pos q2]; exact (h2 q2).1
      · rw [if_neg q2, h3 q2]; exact e4
    · rw [up_o a, h1.1 j b a, e6.1 j a b]
    · rw [up_r, upd_n b, h1.2 k a, e6.2 k a b]
  generalize hd : lcg y / 7 % 8 = d at *
  have hd8 : d < 8 := by omega
  by_cases q1 : d ≤ 2
  · have hk : kindY d = 0 := by unfold kindY; rw [if_pos q1]
    rw [if_neg (show ¬ (3 : Int32) ≤ nI d from nI_ge (b := 3) (by omega) (by omega))]
    rw [hk] at tail
    have hn : numY 0 (lcg y / 56) = lcg y / 56 % 7 := rfl
    obtain ⟨η, w1, w2, w3, w4⟩ := go_eq (a := lcg y % 7) (n := lcg y / 56 % 7) e4 e5 (by omega) (by omega)
    rw [w1, b_some, let_eq]
    exact tail η w2 w3 w4 _
  rw [if_pos (show (3 : Int32) ≤ nI d from nI_le (a := 3) (by omega) (by omega))]
  by_cases q2 : d = 3
  · have hk : kindY d = 1 := by rw [q2]; rfl
    rw [if_pos (show nI d = 3 by rw [q2]; rfl)]
    rw [hk] at tail
    obtain ⟨η, w1, w2, w3, w4⟩ := mact_1 (n := numY 1 (lcg y / 56)) (mend_eq (a := lcg y % 7) e4 e5 (by omega))
    rw [w1, b_some, let_eq]
    exact tail η w2 w3 w4 _
  rw [if_neg (show ¬ nI d = 3 from nI_ne (c := 3) q2 (by omega) (by omega))]
  by_cases q3 : d = 4
  · have hk : kindY d = 2 := by rw [q3]; rfl
    rw [if_pos (show nI d = 4 by rw [q3]; rfl)]
    rw [hk] at tail
    obtain ⟨η, w1, w2, w3, w4⟩ := split_eq (a := lcg y % 7) (n := lcg y / 56 % 7) e4 e5 (by omega) (by omega)
    rw [w1, b_some, let_eq]
    exact tail η w2 w3 w4 _
  rw [if_neg (show ¬ nI d = 4 from nI_ne (c := 4) q3 (by omega) (by omega)), jn_eq]
  by_cases q4 : d = 5
  · have hk : kindY d = 3 := by rw [q4]; rfl
    rw [if_pos (show nI d = 5 by rw [q4]; rfl), show (1 : Int32) + nI (lcg y / 56 % 3) = nI (1 + lcg y / 56 % 3) from nI_add 1 _]
    rw [hk] at tail
    obtain ⟨η, w1, w2, w3, w4⟩ := mact_3 (a := lcg y % 7) (blow_eq (n := 1 + lcg y / 56 % 3) e4 e5 (by omega))
    rw [w1, b_some]
    dsimp only
    rw [let_eq]
    exact tail η w2 w3 w4 _
  · have hk : kindY d = 4 := by unfold kindY; rw [if_neg q1, if_neg q2, if_neg q3, if_neg q4]
    rw [if_neg (show ¬ nI d = 5 from nI_ne (c := 5) q4 (by omega) (by omega))]
    rw [hk] at tail
    obtain ⟨η, w1, w2, w3, w4⟩ := mact_4 (a := lcg y % 7) (n := numY 4 (lcg y / 56)) (day_eq e4 e5)
    rw [w1, b_some]
    dsimp only
    rw [let_eq]
    exact tail η w2 w3 w4 _
