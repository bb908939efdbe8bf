theorem copyM {b c : Nat} {μ : pm_M} {B R : Nat → Int32} (hbc : b + 4 < c ∨ c + 4 < b) (hr : repM μ c B R) : ∃ ν, f_X2_copyFrom b c μ = some ν ∧ repM ν b B R ∧ frM b μ ν := by
  obtain ⟨r1, r2, r3, r4, r5⟩ := hr
  refine ⟨_, rfl, ?_, fun j hj => ?_⟩
  · unfold repM
    refine ⟨fun i hi => ?_, fun i hi => ?_, fun i hi => ?_, fun i hi => ?_, ?_⟩
    · rw [up_o (by omega), cp_o (by omega), cp_o (by omega), cp_o (by omega), cp_r hi]; exact r1 i hi
    · rw [up_o (by omega), cp_o (by omega), cp_o (by omega), cp_r hi, cp_o (by omega)]; exact r2 i hi
    · rw [up_o (by omega), cp_o (by omega), cp_r hi, cp_o (by omega), cp_o (by omega)]; exact r3 i hi
    · rw [up_o (by omega), cp_r hi, cp_o (by omega), cp_o (by omega), cp_o (by omega)]; exact r4 i hi
    · rw [up_r, upd_s, cp_o (by omega), cp_o (by omega), cp_o (by omega), cp_o (by omega)]; exact r5
  · rw [up_o (by omega), cp_o (by omega), cp_o (by omega), cp_o (by omega), cp_o (by omega)]
/-- the run of weeks of a memory -/
def wkOf (μ : pm_M) (N : Nat) : (Int32 × Int32) × (Nat → Int32) × Nat × Int32 × Int32 × Int32 := wkA (μ 56) N (μ 53) (N + 1) 0 (μ 51) 0 0 (-6, -6)
theorem can_eq {μ : pm_M} {N : Nat} (h1 : R1 μ) (hP : okP (μ 56) N) (h43 : ∀ i, i < N → μ 43 i = μ 56 i) (h42 : μ 42 1 = nI N) (hf : fine (μ 56) N 0) : ∃ ν, f_X7_canBe μ = some (if (wkOf μ N).1.1 = -6 then 1 else 0, ν) ∧ frW μ ν ∧ wkFin ν (μ 53) (wkOf μ N) := by
  obtain ⟨hm, hok⟩ := h1
  unfold f_X7_canBe
  have hsc : scan (μ 56) N N 0 0 = -6 := hf
  rw [xfault hP h43 h42, b_some, hsc, if_pos rfl]
  have hbeg : ∃ μ1, f_X7_begin μ = some μ1 ∧ wkX μ1 0 0 (-6, -6) ∧ ∀ j, j ≠ 44 → μ1 j = μ j := by
    refine ⟨_, rfl, ⟨?_, ?_, ?_, ?_, ?_, ?_⟩, fun j hj => ?_⟩
    · rw [up_r, upd_n (by decide), up_r, upd_n (by decide), up_r, upd_n (by decide), up_r, upd_n (by decide), up_r, upd_n (by decide), up_r, upd_s]; rfl
    · rw [up_r, upd_n (by decide), up_r, upd_n (by decide), up_r, upd_n (by decide), up_r, upd_n (by decide), up_r, upd_s]
    · rw [up_r, upd_n (by decide), up_r, upd_n (by decide), up_r, upd_n (by decide), up_r, upd_s]
    · rw [up_r, upd_n (by decide), up_r, upd_n (by decide), up_r, upd_s]
    · rw [up_r, upd_n (by decide), up_r, upd_s]
    · rw [up_r, upd_s]
    · rw [up_o hj, up_o hj, up_o hj, up_o hj, up_o hj, up_o hj]
  obtain ⟨μ1, b1, b2, b3⟩ := hbeg
  rw [b1, b_some]
  have hr1 : repM μ1 2 (μ 51) (μ 53) := by unfold repM; rw [b3 3 (by decide), b3 4 (by decide), b3 5 (by decide), b3 6 (by decide), b3 2 (by decide)]; exact hm
  obtain ⟨μ2, c1, c2, c3⟩ := copyM (b := 37) (by omega) hr1
  rw [c1, b_some]
  have hf2 : frW μ μ2 := fun j a1 a2 => (c3 j (by omega)).trans (b3 j a2)
  have hx2 : wkX μ2 0 0 (-6, -6) := by unfold wkX; rw [c3 44 (by omega)]; exact b2
  refine can_loop (μ0 := μ) (W := wkOf μ N) (R := μ 53) hP h43 h42 (fun o => ∃ ν, o = some (if (wkOf μ N).1.1 = -6 then 1 else 0, ν) ∧ frW μ ν ∧ wkFin ν (μ 53) (wkOf μ N)) (fun ν g1 g2 => ?_) hf2 c2 hok hx2 hf rfl
  refine ⟨ν, ?_, g1, g2⟩
  rw [g2.2.2.1]
  split <;> rfl
/-! the model goes through the weeks -/
theorem had_eq {μ : pm_M} {E : pm_M → Option (Int32 × pm_M)} : pm_it f_X10_goWeeks_b21 5000 (0, μ) E = E (pm_row μ 57 (pre 49 (μ 52) (μ 57))) := by
  refine it_for (fun k => (nI k, pm_row μ 57 (pre k (μ 52) (μ 57)))) 49 (fun k hk T => ?_) (fun T => ?_) 49 0 5000 (by omega) (by omega) |> fun h => (by rw [pre_0, row_id] at h; exact h)
  · show (if (49 : Int32) ≤ nI k then _ else _) = _
    rw [if_neg (show ¬ (49 : Int32) ≤ nI k from nI_ge (b := 49) hk (by omega))]
    dsimp only
    rw [ck_in (by omega) (by omega), ck_in hk (by omega), nI_clamp (by omega), let_eq, row_o (by decide), up_row, pre_s, nI_1]
  · rfl
theorem gap_loop {μ : pm_M} {B B' : Nat → Int32} {acts : Nat} {gs : Int32 × Int32} (h57 : ∀ i, i < 49 → μ 57 i = B i) (h52 : ∀ i, i < 49 → μ 52 i = B' i) (h13 : μ 50 13 = nI acts) (h9 : μ 50 9 = gs.1) (h10 : μ 50 10 = gs.2) (hg : gsOK gs) (ha : acts ≤ 60) {E : pm_M → Option (Int32 × pm_M)} (Q : Option (Int32 × pm_M) → Prop)
    (hE : ∀ ν, (∀ j, j ≠ 50 → ν j = μ j) → (∀ k, k ≠ 9 → k ≠ 10 → ν 50 k = μ 50 k) → ν 50 9 = (gnote B B' acts gs).1 → ν 50 10 = (gnote B B' acts gs).2 → Q (E ν)) : Q (pm_it f_X10_goWeeks_b125 5000 (0, μ) E) := by
  refine it_wp (fun k s => (∃ i, s = (nI i, μ) ∧ 51 ≤ i + k ∧ i ≤ 49 ∧ ((∃ t : Nat, t ≤ 60 ∧ gs.1 = nI t) ∨ ∀ m, m < i → gapP B B' m = false)) ∨ (1 ≤ k ∧ ∃ x ν, s = (x, ν) ∧ (∃ t : Nat, t ≤ 60 ∧ ν 50 9 = nI t) ∧ (∀ j, j ≠ 50 → ν j = μ j) ∧ (∀ k, k ≠ 9 → k ≠ 10 → ν 50 k = μ 50 k) ∧ ν 50 9 = (gnote B B' acts gs).1 ∧ ν 50 10 = (gnote B B' acts gs).2)) Q ?_ (fun k s h T hT => ?_) 5000 51 _ (by omega) (Or.inl ⟨0, rfl, by omega, by omega, Or.inr (fun m hm => by omega)⟩)
  · rintro s (⟨i, -, h1, h2, -⟩ | ⟨h1, -⟩) <;> omega
  rcases h with ⟨i, rfl, e1, e2, e3⟩ | ⟨-, x, ν, rfl, ⟨t, ht, e1⟩, e2, e3, e4, e5⟩
  · unfold f_X10_goWeeks_b125
    dsimp only
    rcases hg with ⟨g1, g2⟩ | ⟨⟨t, ht, g1⟩, g2⟩
    · have e3 : ∀ m, m < i → gapP B B' m = false := by
        rcases e3 with ⟨t, ht, z⟩ | e3
        · exact absurd (z.symm.trans g1) (nI_m6 (by omega))
        · exact e3
      by_cases q : i = 49
      · subst q
        rw [if_pos (show (49 : Int32) ≤ nI 49 by decide)]
        have hn : gapO B B' = none := fnd_none 49 0 (fun j _ hj => e3 j (by omega))
        refine hE μ (fun _ _ => rfl) (fun _ _ _ => rfl) ?_ ?_
        · unfold gnote; rw [if_pos g1, hn]; exact h9
        · unfold gnote; rw [if_pos g1, hn]; exact h10
      have hi : i < 49 := by omega
      have hdv : nI i / 7 = nI (i / 7) := pk_div (a := i) (d := 7) (by omega) (by omega) (by omega)
      have hrm : pm_rem (nI i) 7 = nI (i % 7) := pk_rem (a := i) (d := 7) (by omega) (by omega) (by omega)
      have next : gapP B B' i = false → Q (T (nI (i + 1), μ)) := fun hf => hT _ (Or.inl ⟨i + 1, rfl, by omega, by omega, Or.inr (fun m hm => by
        rcases Nat.eq_or_lt_of_le (show m ≤ i by omega) with z | z
        · rw [z]; exact hf
        · exact e3 m z)⟩)
      rw [if_neg (show ¬ (49 : Int32) ≤ nI i from nI_ge (b := 49) hi (by omega)), if_neg (show ¬ 0 ≤ μ 50 9 by rw [h9, g1]; decide), jn_eq, hdv, hrm, nI_1]
      by_cases q1 : i % 7 ≤ i / 7
      · rw [if_pos (nI_le q1 (by omega))]
        exact next (gapP_no (fun z => by have := z.1; omega))
      rw [if_neg (nI_ge (by omega) (by omega)), ck_in (by omega) (by omega), nI_clamp (by omega)]
      have a52 := h52 i hi
      have a57 := h57 i hi
      by_cases q2 : ¬ B' i = 0
      · rw [if_neg (by rw [a52]; exact q2)]
        exact next (gapP_no (fun z => q2 z.2.1))
      have q2 : B' i = 0 := Decidable.not_not.mp q2
      rw [if_pos (by rw [a52]; exact q2), ck_in hi (by omega)]
      by_cases q3 : B i ≤ 0
      · rw [if_pos (by rw [a57]; exact q3)]
        exact next (gapP_no (fun z => absurd z.2.2 (Int32.not_lt.mpr q3)))
      rw [if_neg (by rw [a57]; exact q3), let_eq, let_eq, h13, show (10 : Int32) = nI 10 from rfl, pk_mul, nI_add]
      have hfd : gapO B B' = some i := fnd_at (gapP_iff.mpr ⟨by omega, q2, Int32.not_le.mp q3⟩) 49 0 (by omega) (by omega) (fun m _ hm => e3 m hm)
      have hgn : gnote B B' acts gs = (nI acts, nI (10 * (i / 7) + i % 7)) := by unfold gnote; rw [if_pos g1, hfd]; rfl
      refine hT _ (Or.inr ⟨by omega, _, _, rfl, ⟨acts, ha, ?_⟩, fun j hj => by rw [up_o hj, up_o hj], fun k h1 h2 => by rw [up_r, upd_n h2, up_r, upd_n h1], ?_, ?_⟩)
      · rw [up_r, upd_n (by decide), up_r, upd_s]
      · rw [up_r, upd_n (by decide), up_r, upd_s, hgn]
      · rw [up_r, upd_s, hgn]
    · have hgn : gnote B B' acts gs = gs := by unfold gnote; rw [if_neg (by rw [g1]; exact nI_m6 (by omega))]
      have hq := hE μ (fun _ _ => rfl) (fun _ _ _ => rfl) (by rw [hgn]; exact h9) (by rw [hgn]; exact h10)
      split
      · exact hq
      · rw [if_pos (by rw [h9, g1]; exact nI_pos' (by omega))]
        exact hq
  · unfold f_X10_goWeeks_b125
    dsimp only
    split
    · exact hE ν e2 e3 e4 e5
    · rw [if_pos (by rw [e1]; exact nI_pos' (by omega))]
      exact hE ν e2 e3 e4 e5
theorem one_eq {μ : pm_M} {B R P : Nat → Int32} {N i : Nat} (hP : okP P N) (h56 : ∀ i, i < N → μ 56 i = P i) (hi : i < N) (hf : fine P N i) (hr : repN μ B R) (hok : okB B R) (h4 : ¬ pc P i = 46) : mact μ B R (actK P i) (actM P i) (actN P i) (f_X10_oneAct (nI i) μ) := by
  have hN := hP.1
  have b0 := hP.at hi
  have fin : ∀ o : Option (Int32 × pm_M), o.bind (fun r => some (r.1, r.2)) = o := fun o => by cases o <;> rfl
  unfold f_X10_oneAct
  rcases parse hN hi hf with ⟨c, f⟩ | ⟨c, l, c1, c2, f⟩ | ⟨c1, c2, l, hh⟩
  · exact absurd c h4
  · have b1 := hP.at l
    have hk : actK P i = 3 := by unfold actK; rw [if_neg (by omega), if_pos c]
    have hn : actN P i = pc P (i + 1) - 48 := by unfold actN; rw [hk, if_pos rfl]
    have hm : actM P i = 0 := by unfold actM; rw [if_neg (by omega), if_pos c]
    rw [ck_in (by omega) (by omega), nI_clamp (by omega), let_eq, nI_1, ck_in (by omega) (by omega), nI_clamp (by omega), let_eq, h56 i hi, h56 _ l, b0.2.2, b1.2.2, if_pos (show nI (pc P i) = 119 by rw [c]; rfl), show (48 : Int32) = nI 48 from rfl, sub_nI 48 (by omega), fin, hk, hn, hm]
    exact blow_eq hr hok (by omega)
  · have b1 := hP.at l
    have hm : actM P i = pc P i - 65 := by unfold actM; rw [if_neg (by omega), if_neg (by omega)]
    rw [ck_in (by omega) (by omega), nI_clamp (by omega), let_eq, nI_1, ck_in (by omega) (by omega), nI_clamp (by omega), let_eq, h56 i hi, h56 _ l, b0.2.2, b1.2.2, if_neg (show ¬ nI (pc P i) = 119 from nI_ne (c := 119) (by omega) (by omega) (by omega)), show (65 : Int32) = nI 65 from rfl, sub_nI 65 (by omega), hm]
    rcases hh with ⟨d1, d2, f⟩ | ⟨d, f⟩ | ⟨d, l2, d1, d2, f⟩
    · have hk : actK P i = 0 := by unfold actK; rw [if_neg (by omega), if_neg (by omega), if_neg (by omega), if_neg (by omega)]
      have hn : actN P i = pc P (i + 1) - 97 := by unfold actN; rw [hk, if_neg (by decide), if_neg (by decide), if_pos rfl]
      rw [if_neg (show ¬ nI (pc P (i + 1)) = 42 from nI_ne (c := 42) (by omega) (by omega) (by omega)), if_neg (show ¬ nI (pc P (i + 1)) = 33 from nI_ne (c := 33) (by omega) (by omega) (by omega)), show (97 : Int32) = nI 97 from rfl, sub_nI 97 (by omega), fin, hk, hn]
      exact go_eq hr hok (by omega) (by omega)
    · have hk : actK P i = 1 := by unfold actK; rw [if_neg (by omega), if_neg (by omega), if_neg (by omega), if_pos d]
      have hn : actN P i = 0 := by unfold actN; rw [hk, if_neg (by decide), if_neg (by decide), if_neg (by decide)]
      rw [if_pos (show nI (pc P (i + 1)) = 42 by rw [d]; rfl), fin, hk, hn]
      exact mend_eq hr hok (by omega)
    · have b2 := hP.at l2
      have hk : actK P i = 2 := by unfold actK; rw [if_neg (by omega), if_neg (by omega), if_pos d]
      have hn : actN P i = pc P (i + 2) - 97 := by unfold actN; rw [hk, if_neg (by decide), if_pos rfl]
      rw [if_neg (show ¬ nI (pc P (i + 1)) = 42 from nI_ne (c := 42) (by omega) (by omega) (by omega)), if_pos (show nI (pc P (i + 1)) = 33 by rw [d]; rfl), show nI i + (2 : Int32) = nI (i + 2) from nI_add i 2, ck_in (by omega) (by omega), nI_clamp (by omega), h56 _ l2, b2.2.2, show (97 : Int32) = nI 97 from rfl, sub_nI 97 (by omega), fin, hk, hn]
      exact split_eq hr hok (by omega) (by omega)
