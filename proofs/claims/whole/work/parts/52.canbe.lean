/-! the class goes through the weeks -/
section ACTX
variable {b : Nat} {μ : pm_M} {B R : Nat → Int32}
/-- an act's numbers as they must be -/
def rng (k a n : Nat) (m : Int32) : Prop := k ≤ 4 ∧ (k < 3 → a < 7 ∧ m = nI a) ∧ (k = 0 ∨ k = 2 → n < 7) ∧ (k = 3 → n ≤ 9)
theorem k_cases {k : Nat} (h : k ≤ 4) : k = 0 ∨ k = 1 ∨ k = 2 ∨ k = 3 ∨ k = 4 := by omega
theorem whyX {k a n : Nat} {m : Int32} (hr : repM μ b B R) (hok : okB B R) (h : rng k a n m) : f_X2_whyNot b (nI k) m (nI n) μ = some (nI (whyA B R k a n)) := by
  obtain ⟨h0, h1, h2, h3⟩ := h
  rcases k_cases h0 with rfl | rfl | rfl | rfl | rfl
  · rw [(h1 (by omega)).2]; exact why0 hr hok (h1 (by omega)).1 (h2 (by omega))
  · rw [(h1 (by omega)).2, show whyA B R 1 a n = whyA B R 1 a 0 by rw [whyA_1, whyA_1]]; exact why1 hr hok (h1 (by omega)).1
  · rw [(h1 (by omega)).2]; exact why2 hr hok (h1 (by omega)).1 (h2 (by omega))
  · rw [show whyA B R 3 a n = whyA B R 3 0 0 by rw [whyA_3, whyA_3]]; exact why3 hr
  · rw [show whyA B R 4 a n = whyA B R 4 0 0 by rw [whyA_4, whyA_4]]; exact why4 hr hok
theorem perfX {k a n : Nat} {m : Int32} (hr : repM μ b B R) (hok : okB B R) (h : rng k a n m) (hw : whyA B R k a n = 0) : ∃ ν, f_X2_perform b (nI k) m (nI n) μ = some ν ∧ repM ν b (doA B k a n) R ∧ frM b μ ν := by
  obtain ⟨h0, h1, h2, h3⟩ := h
  rcases k_cases h0 with rfl | rfl | rfl | rfl | rfl
  · rw [(h1 (by omega)).2]; exact perf0 hr (h1 (by omega)).1 (h2 (by omega))
  · rw [show whyA B R 1 a n = whyA B R 1 a 0 by rw [whyA_1, whyA_1]] at hw
    rw [(h1 (by omega)).2, show doA B 1 a n = doA B 1 a 0 by rw [doA_1, doA_1]]; exact perf1 hr hok (h1 (by omega)).1 hw
  · rw [(h1 (by omega)).2]; exact perf2 hr hok (h1 (by omega)).1 (h2 (by omega)) hw
  · rw [show doA B 3 a n = doA B 3 0 n by rw [doA_3, doA_3]]; exact perf3 hr
  · rw [show doA B 4 a n = doA B 4 0 0 by rw [doA_4, doA_4]]; exact perf4 hr
theorem gapX {k a n : Nat} {m : Int32} (hr : repM μ b B R) (hok : okB B R) (h : rng k a n m) (hw : whyA B R k a n = 0) : f_X2_gapMadeBy b (nI k) m (nI n) μ = some (gapV (gapO B (doA B k a n))) := by
  obtain ⟨h0, h1, h2, h3⟩ := h
  rcases k_cases h0 with rfl | rfl | rfl | rfl | rfl
  · rw [gm_other (by decide) (by decide), gap_k0]; rfl
  · rw [gm_other (by decide) (by decide), gap_k1 hok (h1 (by omega)).1 hw]; rfl
  · rw [(h1 (by omega)).2]; exact gm2 hr hok (h1 (by omega)).1 (h2 (by omega)) hw
  · rw [show doA B 3 a n = doA B 3 0 n by rw [doA_3, doA_3]]; exact gm3 hr hok (h3 rfl)
  · rw [gm_other (by decide) (by decide), gap_k4]; rfl
theorem okX {k a n : Nat} {m : Int32} (hok : okB B R) (h : rng k a n m) (hw : whyA B R k a n = 0) : okB (doA B k a n) R :=
  do_ok hok hw (fun q => (h.2.1 q).1) h.2.2.1 h.2.2.2
end ACTX
def wkX (μ : pm_M) (acts : Nat) (g : Int32) (gs : Int32 × Int32) : Prop := μ 44 0 = nI acts ∧ μ 44 1 = -6 ∧ μ 44 2 = -6 ∧ μ 44 3 = g ∧ μ 44 4 = gs.1 ∧ μ 44 5 = gs.2
def gsOK (gs : Int32 × Int32) : Prop := (gs.1 = -6 ∧ gs.2 = -6) ∨ ((∃ t : Nat, t ≤ 60 ∧ gs.1 = nI t) ∧ ¬ gs.2 = -6)
theorem gapV_ne {i : Nat} (h : i < 49) : ¬ gapV (some i) = -6 := nI_m6 (by omega)
theorem fnd_lt {P : Nat → Bool} {j : Nat} : ∀ n i, fnd P i n = some j → i ≤ j ∧ j < i + n
  | 0, i, h => by cases h
  | n + 1, i, h => by
    have h : (if P i = true then some i else fnd P (i + 1) n) = some j := h
    by_cases q : P i = true
    · rw [if_pos q] at h; cases h; omega
    · rw [if_neg q] at h
      have := fnd_lt n (i + 1) h
      omega
theorem gapO_lt {B B' : Nat → Int32} {i : Nat} (h : gapO B B' = some i) : i < 49 := by
  have := fnd_lt 49 0 h
  omega
theorem gnote_ok {B B' : Nat → Int32} {acts : Nat} {gs : Int32 × Int32} (ha : acts ≤ 60) (h : gsOK gs) : gsOK (gnote B B' acts gs) := by
  unfold gnote
  by_cases q : gs.1 = -6
  · rw [if_pos q]
    cases e : gapO B B' with
    | none => exact h
    | some i => exact Or.inr ⟨⟨acts, ha, rfl⟩, gapV_ne (gapO_lt e)⟩
  · rw [if_neg q]; exact h
def frW (μ ν : pm_M) : Prop := ∀ j, (j < 37 ∨ 41 < j) → j ≠ 44 → ν j = μ j
theorem note_eq {μ : pm_M} {acts : Nat} {g : Int32} {gs : Int32 × Int32} {B B' : Nat → Int32} (hx : wkX μ acts g gs) (hg : gsOK gs) : ∃ ν, f_X7_noteGap (gapV (gapO B B')) μ = some ν ∧ wkX ν acts g (gnote B B' acts gs) ∧ ∀ j, j ≠ 44 → ν j = μ j := by
  obtain ⟨x0, x1, x2, x3, x4, x5⟩ := id hx
  unfold f_X7_noteGap gnote
  cases e : gapO B B' with
  | none =>
    refine ⟨μ, ?_, ?_, fun _ _ => rfl⟩
    · rw [if_pos (show gapV none = -6 from rfl)]
    · split
      · exact hx
      · exact hx
  | some i =>
    rw [if_neg (gapV_ne (gapO_lt e)), x5]
    rcases hg with ⟨g1, g2⟩ | ⟨⟨t, ht, g1⟩, g2⟩
    · rw [if_pos g2, let_eq, let_eq, if_pos g1]
      refine ⟨_, rfl, ⟨?_, ?_, ?_, ?_, ?_, ?_⟩, fun j hj => by rw [up_o hj, up_o hj]⟩
      · rw [up_r, upd_n (by decide), up_r, upd_n (by decide)]; exact x0
      · rw [up_r, upd_n (by decide), up_r, upd_n (by decide)]; exact x1
      · rw [up_r, upd_n (by decide), up_r, upd_n (by decide)]; exact x2
      · rw [up_r, upd_n (by decide), up_r, upd_n (by decide)]; exact x3
      · rw [up_r, upd_s, up_r, upd_n (by decide)]; exact x0
      · rw [up_r, upd_n (by decide), up_r, upd_s]
    · rw [if_neg g2, if_neg (by rw [g1]; exact nI_m6 (by omega))]
      exact ⟨μ, rfl, hx, fun _ _ => rfl⟩
theorem run_ok {μ : pm_M} {B R : Nat → Int32} {k a n acts : Nat} {m g : Int32} {gs : Int32 × Int32} (hr : repM μ 37 B R) (hok : okB B R) (h : rng k a n m) (hw : whyA B R k a n = 0) (hx : wkX μ acts g gs) (hg : gsOK gs) :
    ∃ ν, f_X7_runAct (nI k) m (nI n) μ = some ν ∧ repM ν 37 (doA B k a n) R ∧ wkX ν (acts + 1) (g + milA B R k a n) (gnote B (doA B k a n) acts gs) ∧ frW μ ν := by
  unfold f_X7_runAct
  rw [whyX hr hok h, b_some, hw, if_pos (show nI 0 = 0 from rfl)]
  -- the miles
  have hmil : ∃ μ1, (∀ J : pm_M → Option pm_M, pm_jn J (fun j54 => if nI k = 0 then (f_X2_placeOf 37 m μ).bind (fun r7 => (f_X2_milesBetween 37 r7 (nI n) μ).bind (fun r8 => pm_let (pm_up μ 44 3 ((μ 44 3) + r8)) (fun m9 => j54 m9))) else j54 μ) = J μ1) ∧ wkX μ1 acts (g + milA B R k a n) gs ∧ ∀ j, j ≠ 44 → μ1 j = μ j := by
    obtain ⟨x0, x1, x2, x3, x4, x5⟩ := id hx
    by_cases q : k = 0
    · subst q
      have ha := (h.2.1 (by omega))
      obtain ⟨hp, ep⟩ := pl_ok hok ha.1
      refine ⟨pm_up μ 44 3 (g + R (7 * plA B a + n)), fun J => ?_, ⟨?_, ?_, ?_, ?_, ?_, ?_⟩, fun j hj => up_o hj⟩
      · rw [jn_eq, if_pos (show nI 0 = 0 from rfl), ha.2, plc_eq ha.1, b_some, hr.2.2.1 a ha.1, ep, milB_eq hp (h.2.2.1 (Or.inl rfl)), b_some, let_eq, hr.2.1 _ (by have := h.2.2.1 (Or.inl rfl); omega), x3]
      · rw [up_r, upd_n (by decide)]; exact x0
      · rw [up_r, upd_n (by decide)]; exact x1
      · rw [up_r, upd_n (by decide)]; exact x2
      · rw [up_r, upd_s]; rfl
      · rw [up_r, upd_n (by decide)]; exact x4
      · rw [up_r, upd_n (by decide)]; exact x5
    · have hk := h.1
      refine ⟨μ, fun J => ?_, ⟨x0, x1, x2, ?_, x4, x5⟩, fun _ _ => rfl⟩
      · rw [jn_eq, if_neg (show ¬ nI k = 0 from nI_ne (c := 0) q (by omega) (by omega))]
      · unfold milA
        rw [if_neg q, Int32.add_zero]; exact x3
  obtain ⟨μ1, j1, w1, f1⟩ := hmil
  have hr1 : repM μ1 37 B R := by unfold repM; rw [f1 38 (by decide), f1 39 (by decide), f1 40 (by decide), f1 41 (by decide), f1 37 (by decide)]; exact hr
  rw [j1, gapX hr1 hok h hw, b_some]
  obtain ⟨μ2, j2, w2, f2⟩ := note_eq (B := B) (B' := doA B k a n) w1 hg
  have hr2 : repM μ2 37 B R := by unfold repM; rw [f2 38 (by decide), f2 39 (by decide), f2 40 (by decide), f2 41 (by decide), f2 37 (by decide)]; exact hr1
  rw [j2, b_some]
  obtain ⟨μ3, j3, r3, f3⟩ := perfX hr2 hok h hw
  rw [j3, b_some, let_eq]
  have e44 : μ3 44 = μ2 44 := f3 44 (by omega)
  obtain ⟨x0, x1, x2, x3, x4, x5⟩ := w2
  refine ⟨_, rfl, ?_, ⟨?_, ?_, ?_, ?_, ?_, ?_⟩, fun j hj h44 => ?_⟩
  · unfold repM
    rw [up_o (by decide), up_o (by decide), up_o (by decide), up_o (by decide), up_o (by decide)]
    exact r3
  · rw [up_r, upd_s, e44, x0, nI_1]
  · rw [up_r, upd_n (by decide), e44]; exact x1
  · rw [up_r, upd_n (by decide), e44]; exact x2
  · rw [up_r, upd_n (by decide), e44]; exact x3
  · rw [up_r, upd_n (by decide), e44]; exact x4
  · rw [up_r, upd_n (by decide), e44]; exact x5
  · rw [up_o h44, f3 j (by omega), f2 j h44, f1 j h44]
theorem run_no {μ : pm_M} {B R : Nat → Int32} {k a n : Nat} {m : Int32} (hr : repM μ 37 B R) (hok : okB B R) (h : rng k a n m) (hw : ¬ whyA B R k a n = 0) : f_X7_runAct (nI k) m (nI n) μ = some (pm_up (pm_up μ 44 1 (μ 44 0)) 44 2 (nI (whyA B R k a n))) := by
  have := whyA_le B R k a n
  unfold f_X7_runAct
  rw [whyX hr hok h, b_some, if_neg (show ¬ nI (whyA B R k a n) = 0 from nI_ne (c := 0) hw (by omega) (by omega)), let_eq, let_eq]
/-- what stands in the class's cells behind the weeks -/
def wkFin (ν : pm_M) (R : Nat → Int32) (W : (Int32 × Int32) × (Nat → Int32) × Nat × Int32 × Int32 × Int32) : Prop := repM ν 37 W.2.1 R ∧ ν 44 0 = nI W.2.2.1 ∧ ν 44 1 = W.1.1 ∧ ν 44 2 = W.1.2 ∧ ν 44 3 = W.2.2.2.1 ∧ ν 44 4 = W.2.2.2.2.1 ∧ ν 44 5 = W.2.2.2.2.2
theorem can_loop {μ0 : pm_M} {P : Nat → Int32} {N : Nat} {R : Nat → Int32} {W : (Int32 × Int32) × (Nat → Int32) × Nat × Int32 × Int32 × Int32} (hP : okP P N) (h43 : ∀ i, i < N → μ0 43 i = P i) (h42 : μ0 42 1 = nI N) {E : pm_M → Option (Int32 × pm_M)} (Q : Option (Int32 × pm_M) → Prop)
    (hE : ∀ ν, frW μ0 ν → wkFin ν R W → Q (E ν)) {B : Nat → Int32} {μ : pm_M} (hf : frW μ0 μ) (hr : repM μ 37 B R) (hok : okB B R) (hx : wkX μ 0 0 (-6, -6)) (hfine : fine P N 0) (hW : wkA P N R (N + 1) 0 B 0 0 (-6, -6) = W) :
    Q (pm_it f_X7_canBe_b26 5000 (0, 0, μ) E) := by
  have hN := hP.1
  refine it_wp (fun k s => (∃ i t F acts g gs B ν, s = (nI i, nI t, ν) ∧ N + 2 - i ≤ k ∧ i ≤ N ∧ t ≤ i ∧ acts ≤ i ∧ N < i + F ∧ fine P N i ∧ frW μ0 ν ∧ repM ν 37 B R ∧ okB B R ∧ wkX ν acts g gs ∧ gsOK gs ∧ wkA P N R F i B acts g gs = W) ∨ (1 ≤ k ∧ ∃ x y ν, s = (x, y, ν) ∧ frW μ0 ν ∧ wkFin ν R W ∧ ¬ ν 44 1 = -6)) Q ?_ (fun k s h T hT => ?_) 5000 (N + 2) _ (by omega) (Or.inl ⟨0, 0, N + 1, 0, 0, (-6, -6), B, μ, rfl, by omega, by omega, by omega, by omega, by omega, hfine, hf, hr, hok, hx, Or.inl ⟨rfl, rfl⟩, hW⟩)
  · rintro s (⟨i, t, F, acts, g, gs, B, ν, -, h1, h2, -⟩ | ⟨h1, -⟩) <;> omega
  rcases h with ⟨i, t, F, acts, g, gs, B, ν, rfl, e1, e2, e3, e4, e5, e6, e7, e8, e9, e10, e11, e12⟩ | ⟨-, x, y, ν, rfl, f1, f2, f3⟩
  · have hsz : ν 42 1 = nI N := by rw [e7 42 (by omega) (by decide)]; exact h42
    have h43' : ∀ j, j < N → ν 43 j = P j := fun j hj => by rw [e7 43 (by omega) (by decide)]; exact h43 j hj
    obtain ⟨x0, x1, x2, x3, x4, x5⟩ := id e10
    unfold f_X7_canBe_b26
    dsimp only
    by_cases q : i = N
    · subst q
      have hfin : wkFin ν R W := by
        rw [wk_end (Nat.le_refl i)] at e12
        subst e12
        exact ⟨e8, x0, x1, x2, x3, x4, x5⟩
      unfold f_X3_size
      rw [b_some, hsz, if_pos (nI_le (Nat.le_refl i) (by omega))]
      split
      · exact hE ν e7 hfin
      · exact hE ν e7 hfin
    · have hi : i < N := by omega
      obtain ⟨F', rfl⟩ : ∃ F', F = F' + 1 := ⟨F - 1, by omega⟩
      obtain ⟨g1, g2, g3, g4, g5, g6, g7⟩ := act_rng hN hi e6
      obtain ⟨k1, ⟨m, k2, k3⟩, k4, k5⟩ := act_read (μ := ν) hP h43' hsz hi e6
      have hrng : rng (actK P i) (actM P i) (actN P i) m := ⟨g5, fun z => ⟨g1 z, k3 z⟩, g2, fun z => (g3 z).2⟩
      unfold f_X3_size
      rw [if_neg (show ¬ (60 : Int32) ≤ nI t from nI_ge (b := 60) (by omega) (by omega)), b_some, hsz, if_neg (nI_ge hi (by omega)), if_pos x1, k1, b_some, k2, b_some, k4, b_some]
      have e12 : (if N ≤ i then _ else if whyA B R (actK P i) (actM P i) (actN P i) = 0 then wkA P N R F' (i + actL P i) (doA B (actK P i) (actM P i) (actN P i)) (acts + 1) (g + milA B R (actK P i) (actM P i) (actN P i)) (gnote B (doA B (actK P i) (actM P i) (actN P i)) acts gs) else ((nI acts, nI (whyA B R (actK P i) (actM P i) (actN P i))), B, acts, g, gs)) = W := e12
      rw [if_neg (by omega)] at e12
      by_cases hw : whyA B R (actK P i) (actM P i) (actN P i) = 0
      · rw [if_pos hw] at e12
        obtain ⟨ξ, r1, r2, r3, r4⟩ := run_ok e8 e9 hrng hw e10 e11
        rw [r1, b_some, k5, b_some, let_eq, nI_add, nI_1]
        exact hT _ (Or.inl ⟨i + actL P i, t + 1, F', acts + 1, _, _, _, ξ, rfl, by omega, g7, by omega, by omega, by omega, g4, fun j a1 a2 => (r4 j a1 a2).trans (e7 j a1 a2), r2, okX e9 hrng hw, r3, gnote_ok (by omega) e11, e12⟩)
      · rw [if_neg hw] at e12
        rw [run_no e8 e9 hrng hw, b_some, k5, b_some, let_eq]
        refine hT _ (Or.inr ⟨by omega, _, _, _, rfl, fun j a1 a2 => ?_, ?_, ?_⟩)
        · rw [up_o a2, up_o a2]; exact e7 j a1 a2
        · subst e12
          refine ⟨?_, ?_, ?_, ?_, ?_, ?_, ?_⟩
          · unfold repM
            rw [up_o (by decide), up_o (by decide), up_o (by decide), up_o (by decide), up_o (by decide), up_o (by decide), up_o (by decide), up_o (by decide), up_o (by decide), up_o (by decide)]
            exact e8
          · rw [up_r, upd_n (by decide), up_r, upd_n (by decide)]; exact x0
          · rw [up_r, upd_n (by decide), up_r, upd_s]; exact x0
          · rw [up_r, upd_s]
          · rw [up_r, upd_n (by decide), up_r, upd_n (by decide)]; exact x3
          · rw [up_r, upd_n (by decide), up_r, upd_n (by decide)]; exact x4
          · rw [up_r, upd_n (by decide), up_r, upd_n (by decide)]; exact x5
        · rw [up_r, upd_n (by decide), up_r, upd_s, x0]
          exact nI_m6 (by omega)
  · unfold f_X7_canBe_b26 f_X3_size
    dsimp only
    rw [b_some, if_neg f3]
    split
    · exact hE ν f1 f2
    · split
      · exact hE ν f1 f2
      · exact hE ν f1 f2
