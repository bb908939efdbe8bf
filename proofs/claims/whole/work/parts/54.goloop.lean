theorem len_eq {P : Nat → Int32} {N i : Nat} (hN : N ≤ 60) (hi : i < N) (h : fine P N i) (h4 : ¬ pc P i = 46) : i + 1 < N ∧ actL P i = if pc P (i + 1) = 33 then 3 else 2 := by
  rcases parse hN hi h with ⟨c, f⟩ | ⟨c, l, c1, c2, f⟩ | ⟨c1, c2, l, hh⟩
  · exact absurd c h4
  · refine ⟨l, ?_⟩
    have hk : actK P i = 3 := by unfold actK; rw [if_neg (by omega), if_pos c]
    unfold actL
    rw [hk, if_neg (by decide), if_neg (by decide), if_neg (by omega)]
  · refine ⟨l, ?_⟩
    have hk : actK P i = if pc P (i + 1) = 33 then 2 else if pc P (i + 1) = 42 then 1 else 0 := by unfold actK; rw [if_neg (by omega), if_neg (by omega)]
    unfold actL
    rw [hk]
    by_cases q : pc P (i + 1) = 33
    · rw [if_pos q, if_neg (by decide), if_pos rfl, if_pos q]
    · rw [if_neg q]
      by_cases q2 : pc P (i + 1) = 42
      · rw [if_pos q2, if_neg (by decide), if_neg (by decide), if_neg q]
      · rw [if_neg q2, if_neg (by decide), if_neg (by decide), if_neg q]
def frG (μ ν : pm_M) : Prop := (∀ j, j ≠ 50 → j ≠ 52 → j ≠ 57 → ν j = μ j) ∧ ∀ k, k ≠ 8 → k ≠ 9 → k ≠ 10 → k ≠ 12 → k ≠ 13 → ν 50 k = μ 50 k
theorem frG.tr {μ ν ξ : pm_M} (h1 : frG μ ν) (h2 : frG ν ξ) : frG μ ξ := ⟨fun j a b c => (h2.1 j a b c).trans (h1.1 j a b c), fun k a b c d e => (h2.2 k a b c d e).trans (h1.2 k a b c d e)⟩
theorem frG.fr0 {μ ν : pm_M} (h : frG μ ν) : fr0 μ ν := ⟨fun j a b => h.1 j b (fun q => by rw [q] at a; cases a) (fun q => by rw [q] at a; cases a), h.2 4 (by decide) (by decide) (by decide) (by decide) (by decide), h.2 6 (by decide) (by decide) (by decide) (by decide) (by decide)⟩
/-- what stands in the model's cells behind the weeks -/
def goFin (ν : pm_M) (R : Nat → Int32) (W : (Int32 × Int32) × (Nat → Int32) × Nat × Int32 × Int32 × Int32) : Prop := repN ν W.2.1 R ∧ ν 50 13 = nI W.2.2.1 ∧ ν 50 8 = W.2.2.2.1 ∧ ν 50 9 = W.2.2.2.2.1 ∧ ν 50 10 = W.2.2.2.2.2
theorem mact_4 {μ : pm_M} {B R : Nat → Int32} {a n : Nat} {o : Option (Int32 × pm_M)} (h : mact μ B R 4 0 0 o) : mact μ B R 4 a n o := by
  unfold mact at *
  rw [whyA_4, doA_4] at *
  exact h
theorem go_loop {μ0 : pm_M} {P : Nat → Int32} {N : Nat} {R : Nat → Int32} {W : (Int32 × Int32) × (Nat → Int32) × Nat × Int32 × Int32 × Int32} (hP : okP P N) (h56 : ∀ i, i < N → μ0 56 i = P i) (h506 : μ0 50 6 = nI N) {E : pm_M → Option (Int32 × pm_M)} (Q : Option (Int32 × pm_M) → Prop)
    (hE : ∀ ν, frG μ0 ν → W.1 = (-6, -6) → goFin ν R W → Q (E ν)) (hE2 : ∀ ν (a : Nat), a ≤ 60 → frG μ0 ν → W.1.1 = nI a → ν 50 12 = W.1.2 → Q (some (nI a, ν))) {B : Nat → Int32} {μ : pm_M} (hf : frG μ0 μ) (hr : repN μ B R) (hok : okB B R) (h13 : μ 50 13 = 0) (h8 : μ 50 8 = 0) (h9 : μ 50 9 = -6) (h10 : μ 50 10 = -6) (hfine : fine P N 0) (hW : wkA P N R (N + 1) 0 B 0 0 (-6, -6) = W) :
    Q (pm_it f_X10_goWeeks_b11 5000 (0, μ) E) := by
  have hN := hP.1
  refine it_wp (fun k s => ∃ i F acts g gs B ν, s = (nI i, ν) ∧ N + 1 - i ≤ k ∧ i ≤ N ∧ acts ≤ i ∧ N < i + F ∧ fine P N i ∧ frG μ0 ν ∧ repN ν B R ∧ okB B R ∧ ν 50 13 = nI acts ∧ ν 50 8 = g ∧ ν 50 9 = gs.1 ∧ ν 50 10 = gs.2 ∧ gsOK gs ∧ wkA P N R F i B acts g gs = W) Q ?_ (fun k s h T hT => ?_) 5000 (N + 1) _ (by omega) ⟨0, N + 1, 0, 0, (-6, -6), B, μ, rfl, by omega, by omega, by omega, by omega, hfine, hf, hr, hok, h13, h8, h9, h10, Or.inl ⟨rfl, rfl⟩, hW⟩
  · rintro s ⟨i, F, acts, g, gs, B, ν, -, h1, h2, -⟩; omega
  obtain ⟨i, F, acts, g, gs, B, ν, rfl, e1, e2, e3, e4, e5, e6, e7, e8, e9, e10, e11, e12, e13, e14⟩ := h
  have hsz : ν 50 6 = nI N := by rw [e6.2 6 (by decide) (by decide) (by decide) (by decide) (by decide)]; exact h506
  unfold f_X10_goWeeks_b11
  dsimp only
  by_cases q : i = N
  · subst q
    rw [wk_end (Nat.le_refl i)] at e14
    subst e14
    rw [if_pos (show ν 50 6 ≤ nI i by rw [hsz]; exact nI_le (Nat.le_refl i) (by omega))]
    exact hE ν e6 rfl ⟨e7, e9, e10, e11, e12⟩
  have hi : i < N := by omega
  obtain ⟨F', rfl⟩ : ∃ F', F = F' + 1 := ⟨F - 1, by omega⟩
  obtain ⟨g1, g2, g3, g4, g5, g6, g7⟩ := act_rng hN hi e5
  have hrng : rng (actK P i) (actM P i) (actN P i) (nI (actM P i)) := ⟨g5, fun z => ⟨g1 z, rfl⟩, g2, fun z => (g3 z).2⟩
  rw [if_neg (show ¬ ν 50 6 ≤ nI i by rw [hsz]; exact nI_ge hi (by omega)), had_eq, ck_in (by omega) (by omega), nI_clamp (by omega)]
  have hξ : ∃ ξ, pm_row ν 57 (pre 49 (ν 52) (ν 57)) = ξ ∧ repN ξ B R ∧ (∀ j, j ≠ 57 → ξ j = ν j) ∧ ∀ j, j < 49 → ξ 57 j = B j := by
    refine ⟨_, rfl, ?_, fun j hj => row_o hj, fun j hj => ?_⟩
    · unfold repN; rw [row_o (by decide), row_o (by decide)]; exact e7
    · rw [row_r, pre_lt hj]; exact e7.1 j (by omega)
  obtain ⟨ξ, x1, x2, x3, x4⟩ := hξ
  rw [x1]
  have hp56 : ∀ j, j < N → ξ 56 j = P j := fun j hj => by rw [x3 56 (by decide), e6.1 56 (by decide) (by decide) (by decide)]; exact h56 j hj
  have e14 : (if N ≤ i then _ else if whyA B R (actK P i) (actM P i) (actN P i) = 0 then wkA P N R F' (i + actL P i) (doA B (actK P i) (actM P i) (actN P i)) (acts + 1) (g + milA B R (actK P i) (actM P i) (actN P i)) (gnote B (doA B (actK P i) (actM P i) (actN P i)) acts gs) else ((nI acts, nI (whyA B R (actK P i) (actM P i) (actN P i))), B, acts, g, gs)) = W := e14
  rw [if_neg (by omega)] at e14
  -- what follows behind the act
  have tail : ∀ η : pm_M, frN ξ η → (whyA B R (actK P i) (actM P i) (actN P i) = 0 → repN η (doA B (actK P i) (actM P i) (actN P i)) R ∧ η 50 8 = ξ 50 8 + milA B R (actK P i) (actM P i) (actN P i)) → ∀ m6, m6 = pm_up η 50 12 (nI (whyA B R (actK P i) (actM P i) (actN P i))) →
      Q (if m6 50 12 ≤ 0 then pm_it f_X10_goWeeks_b125 5000 (0, m6) (fun e125 => pm_let (pm_up e125 50 13 ((e125 50 13) + (1 : Int32))) (fun m12 => T (nI (i + actL P i), m12))) else some (m6 50 13, m6)) := by
    intro η h1 h2 m6 h3
    have hwl := whyA_le B R (actK P i) (actM P i) (actN P i)
    have m12 : m6 50 12 = nI (whyA B R (actK P i) (actM P i) (actN P i)) := by rw [h3, up_r, upd_s]
    have m50 : ∀ k, k ≠ 12 → m6 50 k = η 50 k := fun k hk => by rw [h3, up_r, upd_n hk]
    have mo : ∀ j, j ≠ 50 → m6 j = η j := fun j hj => by rw [h3, up_o hj]
    have m13 : m6 50 13 = nI acts := by rw [m50 13 (by decide), h1.2 13 (by decide), x3 50 (by decide)]; exact e9
    have hfr : frG μ0 m6 := by
      refine e6.tr ⟨fun j a b c => ?_, fun k a b c d e => ?_⟩
      · rw [mo j a, h1.1 j b a, x3 j c]
      · rw [m50 k d, h1.2 k a, x3 50 (by decide)]
    by_cases hw : whyA B R (actK P i) (actM P i) (actN P i) = 0
    · rw [if_pos hw] at e14
      obtain ⟨r1, r2⟩ := h2 hw
      rw [if_pos (show m6 50 12 ≤ 0 by rw [m12, hw]; decide)]
      refine gap_loop (B := B) (B' := doA B (actK P i) (actM P i) (actN P i)) (acts := acts) (gs := gs) ?_ ?_ m13 ?_ ?_ e13 (by omega) Q (fun ζ z1 z2 z3 z4 => ?_)
      · intro j hj; rw [mo 57 (by decide), h1.1 57 (by decide) (by decide)]; exact x4 j hj
      · intro j hj; rw [mo 52 (by decide)]; exact r1.1 j (by omega)
      · rw [m50 9 (by decide), h1.2 9 (by decide), x3 50 (by decide)]; exact e11
      · rw [m50 10 (by decide), h1.2 10 (by decide), x3 50 (by decide)]; exact e12
      · rw [let_eq]
        refine hT _ ⟨i + actL P i, F', acts + 1, _, _, _, _, rfl, by omega, g7, by omega, by omega, g4, ?_, ?_, okX e8 hrng hw, ?_, ?_, ?_, ?_, gnote_ok (by omega) e13, e14⟩
        · refine hfr.tr ⟨fun j a b c => ?_, fun k a b c d e => ?_⟩
          · rw [up_o a, z1 j a]
          · rw [up_r, upd_n e, z2 k b c]
        · unfold repN
          rw [up_o (by decide), up_o (by decide), z1 52 (by decide), z1 53 (by decide), mo 52 (by decide), mo 53 (by decide)]
          exact r1
        · rw [up_r, upd_s, z2 13 (by decide) (by decide), m13, nI_1]
        · rw [up_r, upd_n (by decide), z2 8 (by decide) (by decide), m50 8 (by decide), r2, x3 50 (by decide), e10]
        · rw [up_r, upd_n (by decide)]; exact z3
        · rw [up_r, upd_n (by decide)]; exact z4
    · rw [if_neg hw] at e14
      rw [if_neg (show ¬ m6 50 12 ≤ 0 by rw [m12]; exact nI_ge (a := 0) (by omega) (by omega)), m13]
      exact hE2 m6 acts (by omega) hfr (by rw [← e14]) (by rw [m12, ← e14])
  have b0 := hP.at hi
  rw [jn_if]
  by_cases h4 : pc P i = 46
  · have hk : actK P i = 4 := by unfold actK; rw [if_pos h4]
    have hl : actL P i = 1 := by unfold actL; rw [hk, if_pos rfl]
    rw [if_pos (show ξ 56 i = 46 by rw [hp56 i hi, b0.2.2, h4]; rfl), jn_eq, if_neg (show ¬ (1 : Int32) = 0 by decide)]
    obtain ⟨η, w1, w2, w3, -⟩ := mact_4 (a := actM P i) (n := actN P i) (day_eq x2 e8)
    rw [← hk] at w1 w3
    rw [w1, b_some]
    dsimp only
    rw [let_eq, jn_eq, if_neg (show ¬ (1 : Int32) = 0 by decide)]
    dsimp only
    rw [let_eq, show nI i + (1 : Int32) = nI (i + actL P i) by rw [hl]; exact nI_1 i]
    exact tail η w2 w3 _ rfl
  · obtain ⟨l, hl⟩ := len_eq hN hi e5 h4
    have b1 := hP.at l
    rw [if_neg (show ¬ ξ 56 i = 46 by rw [hp56 i hi, b0.2.2]; exact nI_ne (c := 46) h4 (by omega) (by omega)), jn_eq, if_pos rfl]
    obtain ⟨η, w1, w2, w3, -⟩ := one_eq hP hp56 hi e5 x2 e8 h4
    rw [w1, b_some]
    dsimp only
    rw [let_eq, jn_eq, if_pos rfl, nI_1, ck_in (by omega) (by omega), nI_clamp (by omega)]
    have c1 : (pm_up η 50 12 (nI (whyA B R (actK P i) (actM P i) (actN P i)))) 56 (i + 1) = nI (pc P (i + 1)) := by rw [up_o (by decide), w2.1 56 (by decide) (by decide), hp56 _ l]; exact b1.2.2
    by_cases q3 : pc P (i + 1) = 33
    · rw [if_pos q3] at hl
      rw [if_pos (by rw [c1, q3]; rfl)]
      dsimp only
      rw [let_eq, show nI i + (3 : Int32) = nI (i + actL P i) by rw [hl]; exact nI_add i 3]
      exact tail η w2 w3 _ rfl
    · rw [if_neg q3] at hl
      rw [if_neg (by rw [c1]; exact nI_ne (c := 33) q3 (by omega) (by omega))]
      dsimp only
      rw [let_eq, show nI i + (2 : Int32) = nI (i + actL P i) by rw [hl]; exact nI_add i 2]
      exact tail η w2 w3 _ rfl
/-- the model's way through the weeks -/
theorem weeks_eq {μ : pm_M} {N : Nat} (h1 : okB (μ 51) (μ 53)) (hP : okP (μ 56) N) (h506 : μ 50 6 = nI N) (hf : fine (μ 56) N 0) : ∃ ν, frG μ ν ∧ (((wkOf μ N).1 = (-6, -6) ∧ f_X10_goWeeks μ = some (-6, ν) ∧ goFin ν (μ 53) (wkOf μ N)) ∨ ∃ a : Nat, a ≤ 60 ∧ (wkOf μ N).1.1 = nI a ∧ f_X10_goWeeks μ = some (nI a, ν) ∧ ν 50 12 = (wkOf μ N).1.2) := by
  unfold f_X10_goWeeks
  rw [asNow_eq, b_some, let_eq]
  refine go_loop (μ0 := μ) (W := wkOf μ N) (R := μ 53) (P := μ 56) (N := N) hP (fun _ _ => rfl) h506 (fun o => ∃ ν, frG μ ν ∧ (((wkOf μ N).1 = (-6, -6) ∧ o = some (-6, ν) ∧ goFin ν (μ 53) (wkOf μ N)) ∨ ∃ a : Nat, a ≤ 60 ∧ (wkOf μ N).1.1 = nI a ∧ o = some (nI a, ν) ∧ ν 50 12 = (wkOf μ N).1.2)) (fun ν g1 g2 g3 => ⟨ν, g1, Or.inl ⟨g2, rfl, g3⟩⟩) (fun ν a g0 g1 g2 g3 => ⟨ν, g1, Or.inr ⟨a, g0, g2, rfl, g3⟩⟩) ?_ ?_ h1 ?_ ?_ ?_ ?_ hf rfl
  · refine ⟨fun j a b c => ?_, fun k a b c d e => ?_⟩
    · rw [up_o a, up_o a, up_o a, up_o a, row_o b]
    · rw [up_r, upd_n e, up_r, upd_n c, up_r, upd_n b, up_r, upd_n a, row_o (by decide)]
  · unfold repN
    rw [up_o (by decide), up_o (by decide), up_o (by decide), up_o (by decide), up_o (by decide), up_o (by decide), up_o (by decide), up_o (by decide), row_r, row_o (by decide)]
    exact ⟨fun i hi => pre_lt hi, fun _ _ => rfl⟩
  · rw [up_r, upd_s]
  · rw [up_r, upd_n (by decide), up_r, upd_n (by decide), up_r, upd_n (by decide), up_r, upd_s]
  · rw [up_r, upd_n (by decide), up_r, upd_n (by decide), up_r, upd_s]
  · rw [up_r, upd_n (by decide), up_r, upd_s]
