/-! A YEAR -/
def lcg (x : Nat) : Nat := (75 * x + 74) % 65537
def kindY (d : Nat) : Nat := if d ≤ 2 then 0 else if d = 3 then 1 else if d = 4 then 2 else if d = 5 then 3 else 4
def numY (k t : Nat) : Nat := if k = 3 then 1 + t % 3 else t % 7
def stepY (R B : Nat → Int32) (x : Nat) : Nat → Int32 := if whyA B R (kindY (x / 7 % 8)) (x % 7) (numY (kindY (x / 7 % 8)) (x / 56)) = 0 then doA B (kindY (x / 7 % 8)) (x % 7) (numY (kindY (x / 7 % 8)) (x / 56)) else B
def yrA (R : Nat → Int32) : Nat → Nat → (Nat → Int32) → Nat → Int32
  | 0, _, B => B
  | n + 1, x, B => yrA R n (lcg x) (stepY R B (lcg x))
theorem lcg_lt (x : Nat) : lcg x < 65537 := Nat.mod_lt _ (by decide)
theorem kindY_le (d : Nat) : kindY d ≤ 4 := by
  unfold kindY
  repeat' split
  all_goals omega
theorem yrng (x : Nat) : rng (kindY (x / 7 % 8)) (x % 7) (numY (kindY (x / 7 % 8)) (x / 56)) (nI (x % 7)) := by
  refine ⟨kindY_le _, fun _ => ⟨by omega, rfl⟩, fun h => ?_, fun h => ?_⟩
  · unfold numY; rw [if_neg (by omega)]; omega
  · unfold numY; rw [if_pos h]; omega
theorem stepY_ok {R B : Nat → Int32} {x : Nat} (h : okB B R) : okB (stepY R B x) R := by
  unfold stepY
  by_cases q : whyA B R (kindY (x / 7 % 8)) (x % 7) (numY (kindY (x / 7 % 8)) (x / 56)) = 0
  · rw [if_pos q]; exact okX h (yrng x) q
  · rw [if_neg q]; exact h
theorem yr_ok {R : Nat → Int32} : ∀ (n x : Nat) (B : Nat → Int32), okB B R → okB (yrA R n x B) R
  | 0, _, _, h => h
  | n + 1, x, B, h => yr_ok n (lcg x) _ (stepY_ok h)
theorem lcg_eq {x : Nat} (h : x < 65537) : pm_rem (((75 : Int32) * nI x) + (74 : Int32)) (65537 : Int32) = nI (lcg x) := by
  rw [show (75 : Int32) = nI 75 from rfl, pk_mul, show (74 : Int32) = nI 74 from rfl, nI_add]
  exact pk_rem (a := 75 * x + 74) (d := 65537) (by omega) (by omega) (by omega)
theorem d7 {x : Nat} (h : x < 65537) : nI x / 7 = nI (x / 7) := pk_div (a := x) (d := 7) (by omega) (by omega) (by omega)
theorem d56 {x : Nat} (h : x < 65537) : nI x / 56 = nI (x / 56) := pk_div (a := x) (d := 56) (by omega) (by omega) (by omega)
theorem r7 {x : Nat} (h : x < 65537) : pm_rem (nI x) 7 = nI (x % 7) := pk_rem (a := x) (d := 7) (by omega) (by omega) (by omega)
theorem r8 {x : Nat} (h : x < 65537) : pm_rem (nI x) 8 = nI (x % 8) := pk_rem (a := x) (d := 8) (by omega) (by omega) (by omega)
theorem r3 {x : Nat} (h : x < 65537) : pm_rem (nI x) 3 = nI (x % 3) := pk_rem (a := x) (d := 3) (by omega) (by omega) (by omega)
theorem drk : ∀ d, d < 8 → f_X2_drawnKind (nI d) = some (nI (kindY d)) := by decide +kernel
theorem nYj {k t : Nat} (hk : k ≤ 4) (ht : t < 65537) (J : Int32 → Option pm_M) : pm_jn J (fun j60 => (if nI k = (3 : Int32) then (j60 ((1 : Int32) + (pm_rem (nI t) (3 : Int32)))) else (j60 (pm_rem (nI t) (7 : Int32))))) = J (nI (numY k t)) := by
  rw [jn_if]
  unfold numY
  by_cases q : k = 3
  · rw [if_pos q, if_pos (by rw [q]; rfl), r3 ht, show (1 : Int32) = nI 1 from rfl, nI_add]
  · rw [if_neg q, if_neg (show ¬ nI k = 3 from nI_ne (c := 3) q (by omega) (by omega)), r7 ht]
theorem draw_eq {b : Nat} {μ : pm_M} {B R : Nat → Int32} {x Y : Nat} (hr : repM μ b B R) (hok : okB B R) (hx : x < 65537) (hY : Y ≤ 99) : ∃ ν, f_X2_drawActs b (nI x) (nI Y) μ = some ν ∧ repM ν b (yrA R Y x B) R ∧ frM b μ ν := by
  unfold f_X2_drawActs
  refine it_wp (fun k s => ∃ i y ν B', s = (nI y, nI i, ν) ∧ i + k = Y + 1 ∧ i ≤ Y ∧ y < 65537 ∧ repM ν b B' R ∧ okB B' R ∧ frM b μ ν ∧ yrA R (Y - i) y B' = yrA R Y x B) (fun o => ∃ ν, o = some ν ∧ repM ν b (yrA R Y x B) R ∧ frM b μ ν) (fun s h => by obtain ⟨i, x, ν, B', -, h1, h2, -⟩ := h; omega) (fun k s h T hT => ?_) 5000 (Y + 1) _ (by omega) ⟨0, x, μ, B, rfl, by omega, by omega, hx, hr, hok, fun _ _ => rfl, rfl⟩
  obtain ⟨i, y, ν, B', rfl, e1, e2, e3, e4, e5, e6, e7⟩ := h
  unfold f_X2_drawActs_b5
  dsimp only
  by_cases q : i = Y
  · subst q
    rw [if_pos (nI_le (Nat.le_refl i) (by omega))]
    rw [Nat.sub_self] at e7
    have e7 : B' = yrA R i x B := e7
    rw [← e7]
    exact ⟨ν, rfl, e4, e6⟩
  have hi : i < Y := by omega
  have hl := lcg_lt y
  rw [show Y - i = (Y - (i + 1)) + 1 by omega] at e7
  have e7 : yrA R (Y - (i + 1)) (lcg y) (stepY R B' (lcg y)) = yrA R Y x B := e7
  have hg := yrng (lcg y)
  rw [if_neg (nI_ge hi (by omega)), lcg_eq e3, let_eq, d7 hl, r8 (by omega), drk _ (by omega), b_some, d56 hl, let_eq, nYj (kindY_le _) (by omega), r7 hl, whyX e4 e5 hg, b_some, jn_eq, nI_1]
  have hw := whyA_le B' R (kindY (lcg y / 7 % 8)) (lcg y % 7) (numY (kindY (lcg y / 7 % 8)) (lcg y / 56))
  by_cases q2 : whyA B' R (kindY (lcg y / 7 % 8)) (lcg y % 7) (numY (kindY (lcg y / 7 % 8)) (lcg y / 56)) = 0
  · obtain ⟨ξ, p1, p2, p3⟩ := perfX e4 e5 hg q2
    rw [if_pos (by rw [q2]; rfl), p1, b_some]
    refine hT _ ⟨i + 1, lcg y, ξ, stepY R B' (lcg y), rfl, by omega, by omega, hl, ?_, stepY_ok e5, fun j hj => (p3 j hj).trans (e6 j hj), e7⟩
    unfold stepY
    rw [if_pos q2]
    exact p2
  · rw [if_neg (show ¬ nI _ = 0 from nI_ne (c := 0) q2 (by omega) (by omega))]
    refine hT _ ⟨i + 1, lcg y, ν, stepY R B' (lcg y), rfl, by omega, by omega, hl, ?_, stepY_ok e5, e6, e7⟩
    unfold stepY
    rw [if_neg q2]
    exact e4
/-! the model's year -/
def frY (μ ν : pm_M) : Prop := (∀ j, j ≠ 50 → j ≠ 52 → ν j = μ j) ∧ ∀ k, k ≠ 8 → k ≠ 12 → ν 50 k = μ 50 k
theorem mact_1 {μ : pm_M} {B R : Nat → Int32} {a n : Nat} {o : Option (Int32 × pm_M)} (h : mact μ B R 1 a 0 o) : mact μ B R 1 a n o := by
  unfold mact at *
  have e : ∀ n, milA B R 1 a n = 0 := fun n => by unfold milA; rw [if_neg (by decide)]
  rw [whyA_1, doA_1, e] at *
  exact h
theorem mact_3 {μ : pm_M} {B R : Nat → Int32} {a n : Nat} {o : Option (Int32 × pm_M)} (h : mact μ B R 3 0 n o) : mact μ B R 3 a n o := by
  unfold mact at *
  have e : ∀ a, milA B R 3 a n = 0 := fun a => by unfold milA; rw [if_neg (by decide)]
  rw [whyA_3, doA_3, e] at *
  exact h
theorem year_loop {μ0 : pm_M} {B R : Nat → Int32} {x Y : Nat} {E : pm_M → Option (Int32 × pm_M)} (Q : Option (Int32 × pm_M) → Prop) {μ : pm_M} (hf : frY μ0 μ) (hr : repN μ B R) (hok : okB B R) (hx : x < 65537) (hY : Y ≤ 99) (hE : ∀ ν, frY μ0 ν → repN ν (yrA R Y x B) R → Q (E ν)) : Q (pm_it (f_X10_year_b43 (nI Y)) 5000 (nI x, 0, μ) E) := by
  refine it_wp (fun k s => ∃ i y ν B', s = (nI y, nI i, ν) ∧ i + k = Y + 1 ∧ i ≤ Y ∧ y < 65537 ∧ repN ν B' R ∧ okB B' R ∧ frY μ0 ν ∧ yrA R (Y - i) y B' = yrA R Y x B) Q (fun s h => by obtain ⟨i, x, ν, B', -, h1, h2, -⟩ := h; omega) (fun k s h T hT => ?_) 5000 (Y + 1) _ (by omega) ⟨0, x, μ, B, rfl, by omega, by omega, hx, hr, hok, hf, rfl⟩
  obtain ⟨i, y, ν, B', rfl, e1, e2, e3, e4, e5, e6, e7⟩ := h
  unfold f_X10_year_b43
  dsimp only
  by_cases q : i = Y
  · subst q
    rw [if_pos (nI_le (Nat.le_refl i) (by omega))]
    rw [Nat.sub_self] at e7
    have e7 : B' = yrA R i x B := e7
    exact hE ν e6 (e7 ▸ e4)
  have hi : i < Y := by omega
  have hl := lcg_lt y
  rw [show Y - i = (Y - (i + 1)) + 1 by omega] at e7
  have e7 : yrA R (Y - (i + 1)) (lcg y) (stepY R B' (lcg y)) = yrA R Y x B := e7
  rw [if_neg (nI_ge hi (by omega)), lcg_eq e3, let_eq, r7 hl, let_eq, d7 hl, r8 (by omega), let_eq, d56 hl, let_eq, r7 (by omega), r3 (by omega), jn_eq, nI_1]
  have tail : ∀ η, frN ν η → (whyA B' R (kindY (lcg y / 7 % 8)) (lcg y % 7) (numY (kindY (lcg y / 7 % 8)) (lcg y / 56)) = 0 → repN η (doA B' (kindY (lcg y / 7 % 8)) (lcg y % 7) (numY (kindY (lcg y / 7 % 8)) (lcg y / 56))) R ∧ η 50 8 = ν 50 8 + milA B' R (kindY (lcg y / 7 % 8)) (lcg y % 7) (numY (kindY (lcg y / 7 % 8)) (lcg y / 56))) → (¬ whyA B' R (kindY (lcg y / 7 % 8)) (lcg y % 7) (numY (kindY (lcg y / 7 % 8)) (lcg y / 56)) = 0 → η = ν) → ∀ w, Q (T (nI (lcg y), nI (i + 1), pm_up η 50 12 w)) := by
    intro η h1 h2 h3 w
    refine hT _ ⟨i + 1, lcg y, _, stepY R B' (lcg y), rfl, by omega, by omega, hl, ?_, stepY_ok e5, ⟨fun j a b => ?_, fun k a b => ?_⟩, e7⟩
    · unfold repN
      rw [up_o (by decide), up_o (by decide)]
      unfold stepY
      by_cases q2 : whyA B' R (kindY (lcg y / 7 % 8)) (lcg y % 7) (numY (kindY (lcg y / 7 % 8)) (lcg y / 56)) = 0
      · rw [if_pos q2]; exact (h2 q2).1
      · rw [if_neg q2, h3 q2]; exact e4
    · rw [up_o a, h1.1 j b a, e6.1 j a b]
    · rw [up_r, upd_n b, h1.2 k a, e6.2 k a b]
  generalize hd : lcg y / 7 % 8 = d at *
  have hd8 : d < 8 := by omega
  by_cases q1 : d ≤ 2
  · have hk : kindY d = 0 := by unfold kindY; rw [if_pos q1]
    rw [if_neg (show ¬ (3 : Int32) ≤ nI d from nI_ge (b := 3) (by omega) (by omega))]
    rw [hk] at tail
    have hn : numY 0 (lcg y / 56) = lcg y / 56 % 7 := rfl
    obtain ⟨η, w1, w2, w3, w4⟩ := go_eq (a := lcg y % 7) (n := lcg y / 56 % 7) e4 e5 (by omega) (by omega)
    rw [w1, b_some, let_eq]
    exact tail η w2 w3 w4 _
  rw [if_pos (show (3 : Int32) ≤ nI d from nI_le (a := 3) (by omega) (by omega))]
  by_cases q2 : d = 3
  · have hk : kindY d = 1 := by rw [q2]; rfl
    rw [if_pos (show nI d = 3 by rw [q2]; rfl)]
    rw [hk] at tail
    obtain ⟨η, w1, w2, w3, w4⟩ := mact_1 (n := numY 1 (lcg y / 56)) (mend_eq (a := lcg y % 7) e4 e5 (by omega))
    rw [w1, b_some, let_eq]
    exact tail η w2 w3 w4 _
  rw [if_neg (show ¬ nI d = 3 from nI_ne (c := 3) q2 (by omega) (by omega))]
  by_cases q3 : d = 4
  · have hk : kindY d = 2 := by rw [q3]; rfl
    rw [if_pos (show nI d = 4 by rw [q3]; rfl)]
    rw [hk] at tail
    obtain ⟨η, w1, w2, w3, w4⟩ := split_eq (a := lcg y % 7) (n := lcg y / 56 % 7) e4 e5 (by omega) (by omega)
    rw [w1, b_some, let_eq]
    exact tail η w2 w3 w4 _
  rw [if_neg (show ¬ nI d = 4 from nI_ne (c := 4) q3 (by omega) (by omega)), jn_eq]
  by_cases q4 : d = 5
  · have hk : kindY d = 3 := by rw [q4]; rfl
    rw [if_pos (show nI d = 5 by rw [q4]; rfl), show (1 : Int32) + nI (lcg y / 56 % 3) = nI (1 + lcg y / 56 % 3) from nI_add 1 _]
    rw [hk] at tail
    obtain ⟨η, w1, w2, w3, w4⟩ := mact_3 (a := lcg y % 7) (blow_eq (n := 1 + lcg y / 56 % 3) e4 e5 (by omega))
    rw [w1, b_some]
    dsimp only
    rw [let_eq]
    exact tail η w2 w3 w4 _
  · have hk : kindY d = 4 := by unfold kindY; rw [if_neg q1, if_neg q2, if_neg q3, if_neg q4]
    rw [if_neg (show ¬ nI d = 5 from nI_ne (c := 5) q4 (by omega) (by omega))]
    rw [hk] at tail
    obtain ⟨η, w1, w2, w3, w4⟩ := mact_4 (a := lcg y % 7) (n := numY 4 (lcg y / 56)) (day_eq e4 e5)
    rw [w1, b_some]
    dsimp only
    rw [let_eq]
    exact tail η w2 w3 w4 _
/-! how many are away -/
def bs (m : Nat) : Nat → Nat
  | 0 => 0
  | k + 1 => bs m k + m / 2 ^ k % 2
theorem aw_or : ∀ k, k < 7 → ∀ m, m < 2 ^ k → nI m ||| (0 : Int32) = nI m ∧ nI m ||| ((1 : Int32) <<< (nI k &&& 31)) = nI (m + 2 ^ k) := by decide +kernel
theorem aw_lt (p : Nat → Int32) : ∀ k, k ≤ 7 → ∃ m, m < 2 ^ k ∧ awf p k = nI m
  | 0, _ => ⟨0, by decide, rfl⟩
  | k + 1, h => by
    obtain ⟨m, hm, e⟩ := aw_lt p k (by omega)
    have hp : 2 ^ (k + 1) = 2 ^ k + 2 ^ k := by rw [Nat.pow_succ]; omega
    unfold awf
    rw [e]
    by_cases q : p k = nI k
    · rw [if_pos q]; exact ⟨m, by omega, (aw_or k (by omega) m hm).1⟩
    · rw [if_neg q]; exact ⟨m + 2 ^ k, by omega, (aw_or k (by omega) m hm).2⟩
theorem bc_tab : ∀ m, m < 128 → f_J6_bitCount_0f7a4 (nI m) = some (nI (bs m 7)) ∧ ∀ k, k < 7 → (nI m >>> (nI k &&& 31)) &&& (1 : Int32) = nI (m / 2 ^ k % 2) := by decide +kernel
theorem bs_loop {μ : pm_M} {m : Nat} {E : Int32 → Option (Int32 × pm_M)} (hm : m < 128) (ha : f_X10_away μ = some (nI m)) : pm_it (f_X10_year_b192 μ) 5000 (0, 0) E = E (nI (bs m 7)) := by
  refine it_for (fun k => (nI (bs m k), nI k)) 7 (fun k hk T => ?_) (fun T => ?_) 7 0 5000 (by omega) (by omega)
  · show (if (7 : Int32) ≤ nI k then _ else _) = _
    rw [if_neg (show ¬ (7 : Int32) ≤ nI k from nI_ge (b := 7) hk (by omega))]
    dsimp only
    rw [ha, b_some, (bc_tab m hm).2 k hk, let_eq, nI_add, nI_1]
    rfl
  · rfl
theorem yr_out (p1 p2 p3 : Int32) (μ : pm_M) (h : p1 < 0 ∨ 9999 < p1 ∨ p2 < 1 ∨ 99 < p2 ∨ p3 < 0 ∨ 2 < p3) : f_X9_year p1 p2 p3 μ = some (-2, μ) ∧ f_X10_year p1 p2 p3 μ = some (-2, μ) := by
  unfold f_X9_year f_X10_year
  rw [jn_eq, jn_eq]
  by_cases c1 : p1 < 0
  · rw [if_pos c1]
    dsimp only
    rw [if_pos rfl, x10_in_lo c1, b_some, if_pos rfl]; exact ⟨rfl, rfl⟩
  rw [if_neg c1]
  by_cases c2 : 9999 < p1
  · rw [if_pos c2]
    dsimp only
    rw [if_pos rfl, x10_in_hi c2, b_some, if_pos rfl]; exact ⟨rfl, rfl⟩
  rw [if_neg c2, x10_in_in (Int32.not_lt.mp c1) (Int32.not_lt.mp c2), b_some, if_neg (show ¬ (1 : Int32) = 0 by decide)]
  by_cases c3 : p2 < 1
  · rw [if_pos c3]
    dsimp only
    rw [if_pos rfl, x10_in_lo c3, b_some, if_pos rfl]; exact ⟨rfl, rfl⟩
  rw [if_neg c3]
  by_cases c4 : 99 < p2
  · rw [if_pos c4]
    dsimp only
    rw [if_pos rfl, x10_in_hi c4, b_some, if_pos rfl]; exact ⟨rfl, rfl⟩
  rw [if_neg c4, x10_in_in (Int32.not_lt.mp c3) (Int32.not_lt.mp c4), b_some, if_neg (show ¬ (1 : Int32) = 0 by decide)]
  dsimp only
  rw [if_neg (show ¬ (1 : Int32) = 0 by decide)]
  by_cases c5 : p3 < 0
  · rw [if_pos c5, x10_in_lo c5, b_some, if_pos rfl]; exact ⟨rfl, rfl⟩
  rw [if_neg c5]
  by_cases c6 : 2 < p3
  · rw [if_neg (Int32.not_le.mpr c6), x10_in_hi c6, b_some, if_pos rfl]; exact ⟨rfl, rfl⟩
  · rcases h with h | h | h | h | h | h
    · exact absurd h c1
    · exact absurd h c2
    · exact absurd h c3
    · exact absurd h c4
    · exact absurd h c5
    · exact absurd h c6
theorem frY.fr0 {μ ν : pm_M} (h : frY μ ν) : fr0 μ ν := ⟨fun j a b => h.1 j b (fun q => by rw [q] at a; cases a), h.2 4 (by decide) (by decide), h.2 6 (by decide) (by decide)⟩
theorem okyear : ok_year Rel := by
  intro p1 p2 p3 μ hR
  rcases in_or p1 (n := 10000) (by omega) with h | ⟨x, hx, rfl⟩
  · have := yr_out p1 p2 p3 μ (h.elim Or.inl (fun h => Or.inr (Or.inl (Int32.lt_of_lt_of_le (by decide) h))))
    exact ⟨-2, μ, μ, this.1, this.2, hR⟩
  rcases in_or p2 (n := 100) (by omega) with h | ⟨Y, hY, rfl⟩
  · have := yr_out (nI x) p2 p3 μ (Or.inr (Or.inr (h.elim (fun h => Or.inl (Int32.lt_trans h (by decide))) (fun h => Or.inr (Or.inl (Int32.lt_of_lt_of_le (by decide) h))))))
    exact ⟨-2, μ, μ, this.1, this.2, hR⟩
  rcases in_or p3 (n := 3) (by omega) with h | ⟨t, ht, rfl⟩
  · have := yr_out (nI x) (nI Y) p3 μ (Or.inr (Or.inr (Or.inr (Or.inr (h.elim Or.inl (fun h => Or.inr (Int32.lt_of_lt_of_le (by decide) h)))))))
    exact ⟨-2, μ, μ, this.1, this.2, hR⟩
  by_cases hY0 : Y = 0
  · subst hY0
    have := yr_out (nI x) (nI 0) (nI t) μ (Or.inr (Or.inr (Or.inl (by decide))))
    exact ⟨-2, μ, μ, this.1, this.2, hR⟩
  obtain ⟨hm, hok⟩ := id hR.1
  obtain ⟨μ1, c1, c2, c3⟩ := copyM (b := 37) (μ := μ) (c := 2) (B := μ 51) (R := μ 53) (by omega) hm
  obtain ⟨μ2, d1, d2, d3⟩ := draw_eq (x := x) (Y := Y) c2 hok (by omega) (by omega)
  have hW : frW μ μ2 := fun j a b => (d3 j (by omega)).trans (c3 j (by omega))
  have hokY := yr_ok Y x (μ 51) hok
  generalize hB : yrA (μ 53) Y x (μ 51) = B at d2 hokY
  have hcl : f_X9_year (nI x) (nI Y) (nI t) μ = pm_sw (nI t) [0, 1] [(f_X2_countGaps 37 μ2).bind (fun r4 => (some (r4, μ2))), (f_X2_awayBits 37 μ2).bind (fun r5 => (f_J6_bitCount_0f7a4 r5).bind (fun r6 => (some (r6, μ2))))] ((f_X2_cowsOf 37 (0 : Int32) μ2).bind (fun r7 => (some (r7, μ2)))) := by
    unfold f_X9_year
    rw [jn_eq, jn_eq, if_neg (nI_pos (by omega)), if_neg (show ¬ 9999 < nI x from Int32.not_lt.mpr (nI_le (b := 9999) (by omega) (by omega))), if_neg (show ¬ nI Y < 1 from Int32.not_lt.mpr (nI_le (a := 1) (by omega) (by omega))), if_neg (show ¬ 99 < nI Y from Int32.not_lt.mpr (nI_le (b := 99) (by omega) (by omega)))]
    dsimp only
    rw [if_neg (show ¬ (1 : Int32) = 0 by decide), if_neg (nI_pos (by omega)), if_pos (show nI t ≤ 2 from nI_le (b := 2) (by omega) (by omega)), c1, b_some, d1, b_some]
  obtain ⟨m, hm7, em⟩ := aw_lt (fun f => B (49 + f)) 7 (Nat.le_refl 7)
  have hm7 : m < 128 := hm7
  have hmod : ∃ ν, f_X10_year (nI x) (nI Y) (nI t) μ2 = some (if t = 0 then nI (cpair B 0 0) else if t = 1 then nI (bs m 7) else B 56, ν) ∧ fr0 μ2 ν := by
    unfold f_X10_year
    rw [x10_in_in (nI_pos' (by omega)) (show nI x ≤ 9999 from nI_le (b := 9999) (by omega) (by omega)), b_some, if_neg (show ¬ (1 : Int32) = 0 by decide), x10_in_in (show 1 ≤ nI Y from nI_le (a := 1) (by omega) (by omega)) (show nI Y ≤ 99 from nI_le (b := 99) (by omega) (by omega)), b_some, if_neg (show ¬ (1 : Int32) = 0 by decide), x10_in_in (nI_pos' (by omega)) (show nI t ≤ 2 from nI_le (b := 2) (by omega) (by omega)), b_some, if_neg (show ¬ (1 : Int32) = 0 by decide), asNow_eq, b_some]
    have e51 : μ2 51 = μ 51 := hW 51 (by omega) (by decide)
    have e53 : μ2 53 = μ 53 := hW 53 (by omega) (by decide)
    have hfn := asNow_fr μ2
    have hrn : repN (pm_up (pm_up (pm_up (pm_row μ2 52 (pre 64 (μ2 51) (μ2 52))) 50 8 0) 50 9 (-6)) 50 10 (-6)) (μ 51) (μ 53) := by
      unfold repN
      rw [up_o (by decide), up_o (by decide), up_o (by decide), up_o (by decide), up_o (by decide), up_o (by decide), row_r, row_o (by decide), e53, e51]
      exact ⟨fun i hi => pre_lt hi, fun _ _ => rfl⟩
    generalize pm_up (pm_up (pm_up (pm_row μ2 52 (pre 64 (μ2 51) (μ2 52))) 50 8 0) 50 9 (-6)) 50 10 (-6) = μ3 at *
    refine year_loop (μ0 := μ3) (B := μ 51) (R := μ 53) (fun o => ∃ ν, o = some (if t = 0 then nI (cpair B 0 0) else if t = 1 then nI (bs m 7) else B 56, ν) ∧ fr0 μ2 ν) ⟨fun _ _ _ => rfl, fun _ _ _ => rfl⟩ hrn hok (by omega) (by omega) (fun ν v1 v2 => ?_)
    rw [hB] at v2
    have hfz : fr0 μ2 ν := hfn.tr v1.fr0
    have haw : f_X10_away ν = some (nI m) := by rw [m_away, awf_congr (p := fun f => ν 52 (49 + f)) (q := fun f => B (49 + f)) 7 (fun f hf => v2.1 _ (by omega)), em]
    rw [bs_loop hm7 haw]
    refine ⟨ν, ?_, hfz⟩
    have : t = 0 ∨ t = 1 ∨ t = 2 := by omega
    rcases this with rfl | rfl | rfl
    · rw [if_pos (show nI 0 = 0 from rfl), po_rel hokY (fun i hi => v2.1 i (by omega)), b_some]; rfl
    · rw [if_neg (show ¬ nI 1 = 0 by decide), if_pos (show nI 1 = 1 from rfl)]; rfl
    · rw [if_neg (show ¬ nI 2 = 0 by decide), if_neg (show ¬ nI 2 = 1 by decide), show (56 : Int32) = nI 56 from rfl, ck_in (by omega) (by omega), nI_clamp (by omega), v2.1 56 (by omega)]; rfl
  obtain ⟨ν, y1, y2⟩ := hmod
  refine ⟨_, μ2, ν, ?_, y1, Rel_fr ((frW.fr0 hW).tr y2) hR⟩
  rw [hcl]
  have : t = 0 ∨ t = 1 ∨ t = 2 := by omega
  rcases this with rfl | rfl | rfl
  · rw [sw0 (by decide), cgaps_eq, b_some, cpair_congr d2.1]; rfl
  · rw [sw1 (by decide), sw0 (by decide), cl_away, b_some, awf_congr (q := fun f => B (49 + f)) 7 d2.2.2.1, em, (bc_tab m hm7).1, b_some]; rfl
  · rw [sw1 (by decide), sw1 (by decide), swn, show (0 : Int32) = nI 0 from rfl, cow_eq (by omega), b_some, d2.2.2.2.1 0 (by omega)]; rfl
