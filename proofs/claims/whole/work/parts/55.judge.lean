/-! who is away -/
def awf (p : Nat → Int32) : Nat → Int32
  | 0 => 0
  | k + 1 => awf p k ||| (if p k = nI k then (0 : Int32) else (1 : Int32) <<< (nI k &&& 31))
theorem awf_congr {p q : Nat → Int32} : ∀ n, (∀ k, k < n → p k = q k) → awf p n = awf q n
  | 0, _ => rfl
  | n + 1, h => by
    unfold awf
    rw [awf_congr n (fun k hk => h k (by omega)), h n (by omega)]
theorem cl_away (b : Nat) (μ : pm_M) : f_X2_awayBits b μ = some (awf (μ (b + 3)) 7) := by
  unfold f_X2_awayBits
  refine it_for (fun k => (awf (μ (b + 3)) k, nI k)) 7 (fun k hk T => ?_) (fun T => ?_) 7 0 5000 (by omega) (by omega)
  · show (if (7 : Int32) ≤ nI k then _ else _) = _
    rw [if_neg (show ¬ (7 : Int32) ≤ nI k from nI_ge (b := 7) hk (by omega))]
    dsimp only
    rw [ck_in hk (by omega), nI_clamp (by omega), jn_eq, nI_1]
    show _ = T (awf (μ (b + 3)) k ||| (if μ (b + 3) k = nI k then (0 : Int32) else (1 : Int32) <<< (nI k &&& 31)), nI (k + 1))
    by_cases q : μ (b + 3) k = nI k
    · rw [if_pos q, if_pos q, Int32.or_zero]
    · rw [if_neg q, if_neg q, let_eq]
  · rfl
theorem m_away (μ : pm_M) : f_X10_away μ = some (awf (fun f => μ 52 (49 + f)) 7) := by
  unfold f_X10_away
  refine it_for (fun k => (awf (fun f => μ 52 (49 + f)) k, nI k)) 7 (fun k hk T => ?_) (fun T => ?_) 7 0 5000 (by omega) (by omega)
  · show (if (7 : Int32) ≤ nI k then _ else _) = _
    rw [if_neg (show ¬ (7 : Int32) ≤ nI k from nI_ge (b := 7) hk (by omega))]
    dsimp only
    rw [show (49 : Int32) + nI k = nI (49 + k) from nI_add 49 k, ck_in (by omega) (by omega), nI_clamp (by omega), nI_1, jn_if, let_eq]
    rfl
  · rfl
/-! the book behind the weeks is a book -/
theorem wk_ok {P : Nat → Int32} {N : Nat} {R : Nat → Int32} (hN : N ≤ 60) : ∀ (F i : Nat) (B : Nat → Int32) (acts : Nat) (g : Int32) (gs : Int32 × Int32), fine P N i → okB B R → i ≤ N → okB (wkA P N R F i B acts g gs).2.1 R
  | 0, i, B, acts, g, gs, _, h, _ => h
  | F + 1, i, B, acts, g, gs, hf, h, hi => by
    unfold wkA
    by_cases q : N ≤ i
    · rw [if_pos q]; exact h
    · rw [if_neg q]
      obtain ⟨g1, g2, g3, g4, g5, g6, g7⟩ := act_rng hN (by omega) hf
      by_cases hw : whyA B R (actK P i) (actM P i) (actN P i) = 0
      · rw [if_pos hw]
        exact wk_ok hN F _ _ _ _ _ g4 (okX h (m := nI (actM P i)) ⟨g5, fun z => ⟨g1 z, rfl⟩, g2, fun z => (g3 z).2⟩ hw) g7
      · rw [if_neg hw]; exact h
theorem scan_rng {P : Nat → Int32} {N : Nat} : ∀ (n i s : Nat), i + n = N → scan P N n i s = -6 ∨ ∃ j : Nat, j ≤ N ∧ scan P N n i s = nI j
  | 0, i, s, h => by
    show (if s = 0 then (-6 : Int32) else nI N) = -6 ∨ ∃ j : Nat, j ≤ N ∧ (if s = 0 then (-6 : Int32) else nI N) = nI j
    by_cases q : s = 0
    · rw [if_pos q]; exact Or.inl rfl
    · rw [if_neg q]; exact Or.inr ⟨N, by omega, rfl⟩
  | n + 1, i, s, h => by
    show (if stA s (pc P i) = 4 then nI i else scan P N n (i + 1) (stA s (pc P i))) = -6 ∨ ∃ j : Nat, j ≤ N ∧ (if stA s (pc P i) = 4 then nI i else scan P N n (i + 1) (stA s (pc P i))) = nI j
    by_cases q : stA s (pc P i) = 4
    · rw [if_pos q]; exact Or.inr ⟨i, by omega, rfl⟩
    · rw [if_neg q]; exact scan_rng n (i + 1) _ (by omega)
theorem frW.fr0 {μ ν : pm_M} (h : frW μ ν) : fr0 μ ν := by
  refine ⟨fun j a b => h j ?_ (fun q => by rw [q] at a; cases a), by rw [h 50 (by omega) (by decide)], by rw [h 50 (by omega) (by decide)]⟩
  rcases Nat.lt_or_ge j 37 with q | q
  · exact Or.inl q
  · rcases Nat.lt_or_ge 41 j with q2 | q2
    · exact Or.inr q2
    · have : j = 37 ∨ j = 38 ∨ j = 39 ∨ j = 40 ∨ j = 41 := by omega
      rcases this with rfl | rfl | rfl | rfl | rfl <;> cases a
abbrev WT := (Int32 × Int32) × (Nat → Int32) × Nat × Int32 × Int32 × Int32
/-- what the two say of the weeks -/
theorem weeks2 {μ : pm_M} (hR : Rel μ) :
    (∃ f : Nat, f ≤ 60 ∧ f_X3_faultPlace μ = some (nI f) ∧ f_X7_canBe μ = some (0, μ) ∧ f_X10_faultOf μ = some (nI f) ∧ f_X10_barOfWeeks μ = some (-5, μ)) ∨
    ∃ (W : WT) (μ1 μ2 : pm_M), f_X3_faultPlace μ = some (-6) ∧ f_X10_faultOf μ1 = some (-6) ∧ Rel μ1 ∧ Rel μ2 ∧ fr0 μ1 μ2 ∧ frG μ1 μ2 ∧ frW μ μ1 ∧ okB W.2.1 (μ 53) ∧ ((∃ r, f_X7_canBe μ = some (r, μ1)) ∧ μ1 44 1 = W.1.1 ∧ μ1 44 2 = W.1.2) ∧
      ((W.1 = (-6, -6) ∧ f_X7_canBe μ = some (1, μ1) ∧ wkFin μ1 (μ 53) W ∧ f_X10_goWeeks μ1 = some (-6, μ2) ∧ goFin μ2 (μ 53) W ∧ f_X10_barOfWeeks μ1 = some (0, μ2)) ∨
       ∃ a : Nat, a ≤ 60 ∧ W.1.1 = nI a ∧ f_X7_canBe μ = some (0, μ1) ∧ f_X10_goWeeks μ1 = some (nI a, μ2) ∧ μ2 50 12 = W.1.2 ∧ f_X10_barOfWeeks μ1 = some (-5, μ2)) := by
  obtain ⟨h1, h2, h3, h4, h5, h6⟩ := id hR
  obtain ⟨N, hP, h43, h42, h50⟩ := pad_of h4
  rcases scan_rng (P := μ 56) N 0 0 (Nat.zero_add N) with hs | ⟨f, hf, hs⟩
  · right
    obtain ⟨μ1, c1, c2, c3⟩ := can_eq h1 hP h43 h42 hs
    have e51 : μ1 51 = μ 51 := c2 51 (by omega) (by decide)
    have e53 : μ1 53 = μ 53 := c2 53 (by omega) (by decide)
    have e56 : μ1 56 = μ 56 := c2 56 (by omega) (by decide)
    have e50 : μ1 50 = μ 50 := c2 50 (by omega) (by decide)
    have eW : wkOf μ1 N = wkOf μ N := by unfold wkOf; rw [e51, e53, e56]
    obtain ⟨μ2, w1, w2⟩ := weeks_eq (μ := μ1) (N := N) (by rw [e51, e53]; exact h1.2) (by rw [e56]; exact hP) (by rw [e50]; exact h50) (by rw [e56]; exact hs)
    rw [eW, e53] at w2
    have hf1 : f_X10_faultOf μ1 = some (-6) := by rw [mfault (μ := μ1) hP (fun i _ => by rw [e56]) (by rw [e50]; exact h50), hs]
    have hR1 : Rel μ1 := Rel_fr (frW.fr0 c2) hR
    refine ⟨wkOf μ N, μ1, μ2, by rw [xfault hP h43 h42, hs], hf1, hR1, Rel_fr w1.fr0 hR1, w1.fr0, w1, c2, wk_ok hP.1 _ _ _ _ _ _ hs h1.2 (Nat.zero_le N), ⟨⟨_, c1⟩, c3.2.2.1, c3.2.2.2.1⟩, ?_⟩
    rcases w2 with ⟨v1, v2, v3⟩ | ⟨a, ha, v1, v2, v3⟩
    · left
      rw [v1, if_pos rfl] at c1
      refine ⟨v1, c1, c3, v2, v3, ?_⟩
      unfold f_X10_barOfWeeks
      rw [hf1, b_some, if_neg (by decide), v2, b_some, if_pos (show (-6 : Int32) < 0 by decide)]
    · right
      rw [v1, if_neg (nI_m6 (by omega))] at c1
      refine ⟨a, ha, v1, c1, v2, v3, ?_⟩
      unfold f_X10_barOfWeeks
      rw [hf1, b_some, if_neg (by decide), v2, b_some, if_neg (nI_pos (by omega))]
  · left
    have hm : ¬ nI f = -6 := nI_m6 (by have := hP.1; omega)
    refine ⟨f, by have := hP.1; omega, by rw [xfault hP h43 h42, hs], ?_, by rw [mfault hP (fun _ _ => rfl) h50, hs], ?_⟩
    · unfold f_X7_canBe
      rw [xfault hP h43 h42, hs, b_some, if_neg hm]
    · unfold f_X10_barOfWeeks
      rw [mfault hP (fun _ _ => rfl) h50, hs, b_some, if_pos (nI_pos' (by have := hP.1; omega))]
theorem zo_in {p : Nat} (h : p < 2) : f_X9_isZeroOrOne (nI p) = some 1 := by
  have : p = 0 ∨ p = 1 := by omega
  rcases this with rfl | rfl <;> rfl
theorem zo_out {x : Int32} (h : x < 0 ∨ nI 2 ≤ x) : f_X9_isZeroOrOne x = some 0 := by
  unfold f_X9_isZeroOrOne
  rw [if_neg (fun q => by subst q; revert h; decide), if_neg (fun q => by subst q; revert h; decide)]
theorem zi_in {p : Nat} (h : p < 2) : f_X10_in (nI p) 0 1 = some 1 := by
  have : p = 0 ∨ p = 1 := by omega
  rcases this with rfl | rfl <;> rfl
theorem zi_out {x : Int32} (h : x < 0 ∨ nI 2 ≤ x) : f_X10_in x 0 1 = some 0 := by
  rcases h with h | h
  · exact x10_in_lo h
  · exact x10_in_hi (Int32.lt_of_lt_of_le (by decide) h)
theorem okjudge : ok_judge Rel := by
  intro p μ hR
  rcases in_or p (n := 2) (by omega) with h | ⟨k, hk, rfl⟩
  · refine ⟨-2, μ, μ, ?_, ?_, hR⟩
    · unfold f_X9_judge; rw [zo_out h, b_some, if_pos rfl]
    · unfold f_X10_judge; rw [zi_out h, b_some, if_pos rfl]
  unfold f_X9_judge f_X10_judge
  rw [zo_in hk, b_some, if_neg (by decide), zi_in hk]
  rcases weeks2 hR with ⟨f, hf, w1, w2, w3, w4⟩ | ⟨W, μ1, μ2, w1, w2, w3, w4, w5, -, w6, w7, ⟨⟨r, u1⟩, u2, u3⟩, w8⟩
  · refine ⟨-5, μ, μ, ?_, ?_, hR⟩
    · rw [w1, b_some, if_neg (nI_m6 (by omega))]
    · rw [b_some, if_neg (by decide), w3, b_some, if_neg (nI_pos (by omega))]
  · refine ⟨if k = 0 then W.1.1 else W.1.2, μ1, μ2, ?_, ?_, w4⟩
    · rw [w1, b_some, if_pos rfl, u1, b_some]
      dsimp only
      rw [u2, u3]
      by_cases q : k = 0
      · rw [if_pos q, if_pos (by rw [q]; rfl)]
      · rw [if_neg q, if_neg (show ¬ nI k = 0 from nI_ne (c := 0) q (by omega) (by omega))]
    · rw [b_some, if_neg (by decide), w2, b_some, if_pos (by decide)]
      rcases w8 with ⟨v1, v2, v3, v4, v5, v6⟩ | ⟨a, ha, v1, v2, v3, v4, v5⟩
      · rw [v4, b_some, if_pos (show (-6 : Int32) < 0 by decide), v1]
        split <;> rfl
      · rw [v3, b_some]
        dsimp only
        rw [if_neg (nI_pos (by omega)), v4, v1]
        by_cases q : k = 0
        · rw [if_pos q, if_pos (by rw [q]; rfl)]
        · rw [if_neg q, if_neg (show ¬ nI k = 0 from nI_ne (c := 0) q (by omega) (by omega))]
theorem okbehind : ok_behind Rel := by
  intro p q μ hR
  unfold f_X9_behind f_X10_behind
  rcases in_or p (n := 7) (by omega) with h | ⟨a, ha, rfl⟩
  · refine ⟨-1, μ, μ, ?_, ?_, hR⟩
    · rw [two_out1 h, b_some, if_pos rfl]
    · rw [m_farm_out h, b_some, if_pos rfl]
  rcases in_or q (n := 7) (by omega) with h | ⟨c, hc, rfl⟩
  · refine ⟨-1, μ, μ, ?_, ?_, hR⟩
    · rw [two_out2 ha h, b_some, if_pos rfl]
    · rw [m_farm_in ha, b_some, if_neg (by decide), m_farm_out h, b_some, if_pos rfl]
  by_cases hac : a = c
  · subst hac
    refine ⟨-1, μ, μ, ?_, ?_, hR⟩
    · rw [two_same ha, b_some, if_pos rfl]
    · rw [m_farm_in ha, b_some, if_neg (by decide), b_some, if_neg (by decide), if_pos rfl]
  rw [two_in ha hc hac, b_some, if_neg (by decide), m_farm_in ha, m_farm_in hc]
  have hne : ¬ nI a = nI c := nI_ne hac (by omega) (by omega)
  rcases weeks2 hR with ⟨f, hf, w1, w2, w3, w4⟩ | ⟨W, μ1, μ2, w1, w2, w3, w4, w5, -, w6, w7, ⟨⟨r, u1⟩, u2, u3⟩, w8⟩
  · refine ⟨-5, μ, μ, ?_, ?_, hR⟩
    · rw [w2, b_some, if_pos rfl]
    · rw [b_some, if_neg (by decide), b_some, if_neg (by decide), if_neg hne, w4, b_some, if_neg (show ¬ (0 : Int32) ≤ (-5 : Int32) by decide)]
  rcases w8 with ⟨v1, v2, v3, v4, v5, v6⟩ | ⟨t, ht, v1, v2, v3, v4, v5⟩
  · refine ⟨W.2.1 (7 * a + c), μ1, μ2, ?_, ?_, w4⟩
    · rw [v2, b_some]
      dsimp only
      rw [if_neg (by decide), strB_eq ha hc, b_some, v3.1.1 _ (by omega)]
    · rw [b_some, if_neg (by decide), b_some, if_neg (by decide), if_neg hne, v6, b_some]
      dsimp only
      rw [if_pos (by decide), ix7, ck_in (by omega) (by omega), nI_clamp (by omega), v5.1.1 _ (by omega)]
  · refine ⟨-5, μ1, μ2, ?_, ?_, w4⟩
    · rw [v2, b_some, if_pos rfl]
    · rw [b_some, if_neg (by decide), b_some, if_neg (by decide), if_neg hne, v5, b_some, if_neg (show ¬ (0 : Int32) ≤ (-5 : Int32) by decide)]
theorem okgoes : ok_goes Rel := by
  intro p q μ hR
  unfold f_X9_goes f_X10_goes
  rcases in_or p (n := 7) (by omega) with h | ⟨a, ha, rfl⟩
  · refine ⟨-1, μ, μ, ?_, ?_, hR⟩
    · rw [farm_out h, b_some, if_pos rfl]
    · rw [m_farm_out h, b_some, if_pos rfl]
  rcases in_or q (n := 2) (by omega) with h | ⟨c, hc, rfl⟩
  · refine ⟨-2, μ, μ, ?_, ?_, hR⟩
    · rw [farm_in ha, b_some, if_neg (by decide), zo_out h, b_some, if_pos rfl]
    · rw [m_farm_in ha, b_some, if_neg (by decide), zi_out h, b_some, if_pos rfl]
  rw [farm_in ha, b_some, if_neg (by decide), zo_in hc, b_some, if_neg (by decide), m_farm_in ha, zi_in hc]
  rcases weeks2 hR with ⟨f, hf, w1, w2, w3, w4⟩ | ⟨W, μ1, μ2, w1, w2, w3, w4, w5, -, w6, w7, ⟨⟨r, u1⟩, u2, u3⟩, w8⟩
  · refine ⟨-5, μ, μ, ?_, ?_, hR⟩
    · rw [w2, b_some, if_pos rfl]
    · rw [b_some, if_neg (by decide), b_some, if_neg (by decide), w4, b_some, if_neg (show ¬ (0 : Int32) ≤ (-5 : Int32) by decide)]
  rcases w8 with ⟨v1, v2, v3, v4, v5, v6⟩ | ⟨t, ht, v1, v2, v3, v4, v5⟩
  · refine ⟨W.2.1 (49 + 7 * c + a), μ1, μ2, ?_, ?_, w4⟩
    · rw [v2, b_some]
      dsimp only
      rw [if_neg (by decide)]
      have : c = 0 ∨ c = 1 := by omega
      rcases this with rfl | rfl
      · rw [if_pos (show nI 0 = 0 from rfl), plc_eq ha, b_some, v3.1.2.2.1 a ha]
      · rw [if_neg (show ¬ nI 1 = 0 by decide), cow_eq ha, b_some, v3.1.2.2.2.1 a ha]
    · rw [b_some, if_neg (by decide), b_some, if_neg (by decide), v6, b_some]
      dsimp only
      rw [if_pos (by decide), show ((49 : Int32) + (7 : Int32) * nI c) + nI a = nI (49 + 7 * c + a) by rw [show (7 : Int32) = nI 7 from rfl, pk_mul, show (49 : Int32) = nI 49 from rfl, nI_add, nI_add], ck_in (by omega) (by omega), nI_clamp (by omega), v5.1.1 _ (by omega)]
  · refine ⟨-5, μ1, μ2, ?_, ?_, w4⟩
    · rw [v2, b_some, if_pos rfl]
    · rw [b_some, if_neg (by decide), b_some, if_neg (by decide), v5, b_some, if_neg (show ¬ (0 : Int32) ≤ (-5 : Int32) by decide)]
theorem okthen : ok_then Rel := by
  intro p μ hR
  unfold f_X9_then f_X10_then
  rcases in_or p (n := 6) (by omega) with h | ⟨k, hk, rfl⟩
  · refine ⟨-2, μ, μ, ?_, ?_, hR⟩
    · rcases h with h | h
      · rw [if_pos h]
      · rw [if_neg (Int32.not_lt.mpr (Int32.le_trans (by decide) h)), if_neg (Int32.not_le.mpr (Int32.lt_of_lt_of_le (by decide) h))]
    · rcases h with h | h
      · rw [x10_in_lo h, b_some, if_pos rfl]
      · rw [x10_in_hi (Int32.lt_of_lt_of_le (by decide) h), b_some, if_pos rfl]
  rw [if_neg (nI_pos (by omega)), if_pos (show nI k ≤ 5 from nI_le (b := 5) (by omega) (by omega)), x10_in_in (show (0 : Int32) ≤ nI k from nI_pos' (by omega)) (show nI k ≤ 5 from nI_le (b := 5) (by omega) (by omega))]
  rcases weeks2 hR with ⟨f, hf, w1, w2, w3, w4⟩ | ⟨W, μ1, μ2, w1, w2, w3, w4, w5, -, w6, w7, ⟨⟨r, u1⟩, u2, u3⟩, w8⟩
  · refine ⟨-5, μ, μ, ?_, ?_, hR⟩
    · rw [w2, b_some, if_pos rfl]
    · rw [b_some, if_neg (by decide), w4, b_some, if_neg (show ¬ (0 : Int32) ≤ (-5 : Int32) by decide)]
  rcases w8 with ⟨v1, v2, v3, v4, v5, v6⟩ | ⟨t, ht, v1, v2, v3, v4, v5⟩
  · rw [v2, b_some]
    dsimp only
    rw [if_neg (by decide)]
    have hm : ∀ o : Option (Int32 × pm_M), ((some (0, μ2)).bind fun (r2 : Int32 × pm_M) => if 0 ≤ r2.1 then o else some (-5, r2.2)) = o := fun o => by rw [b_some, if_pos (show (0 : Int32) ≤ 0 by decide)]
    obtain ⟨x1, x2, x3, x4, x5, x6, x7⟩ := v3
    obtain ⟨y1, y2, y3, y4, y5⟩ := v5
    have : k = 0 ∨ k = 1 ∨ k = 2 ∨ k = 3 ∨ k = 4 ∨ k = 5 := by omega
    rcases this with rfl | rfl | rfl | rfl | rfl | rfl
    · refine ⟨nI (cpair W.2.1 0 0), μ1, μ2, ?_, ?_, w4⟩
      · rw [sw0 (by decide), cgaps_eq, b_some, cpair_congr x1.1]
      · rw [b_some, if_neg (by decide), v6, b_some]
        dsimp only
        rw [if_pos (by decide), sw0 (by decide), po_rel w7 (fun i hi => y1.1 i (by omega)), b_some]
    · refine ⟨W.2.2.2.1, μ1, μ2, ?_, ?_, w4⟩
      · rw [sw1 (by decide), sw0 (by decide), x5]
      · rw [b_some, if_neg (by decide), v6, b_some]
        dsimp only
        rw [if_pos (by decide), sw1 (by decide), sw0 (by decide), y3]
    · refine ⟨awf (fun f => W.2.1 (49 + f)) 7, μ1, μ2, ?_, ?_, w4⟩
      · rw [sw1 (by decide), sw1 (by decide), sw0 (by decide), cl_away, b_some, awf_congr 7 x1.2.2.1]
      · rw [b_some, if_neg (by decide), v6, b_some]
        dsimp only
        rw [if_pos (by decide), sw1 (by decide), sw1 (by decide), sw0 (by decide), m_away, b_some, awf_congr (p := fun f => μ2 52 (49 + f)) (q := fun f => W.2.1 (49 + f)) 7 (fun f hf => y1.1 _ (by omega))]
    · refine ⟨W.2.1 63, μ1, μ2, ?_, ?_, w4⟩
      · rw [sw1 (by decide), sw1 (by decide), sw1 (by decide), sw0 (by decide), x1.2.2.2.2]
      · rw [b_some, if_neg (by decide), v6, b_some]
        dsimp only
        rw [if_pos (by decide), sw1 (by decide), sw1 (by decide), sw1 (by decide), sw0 (by decide), show (63 : Int32) = nI 63 from rfl, ck_in (by omega) (by omega), nI_clamp (by omega), y1.1 63 (by omega)]
    · refine ⟨W.2.2.2.2.1, μ1, μ2, ?_, ?_, w4⟩
      · rw [sw1 (by decide), sw1 (by decide), sw1 (by decide), sw1 (by decide), sw0 (by decide), x6]
      · rw [b_some, if_neg (by decide), v6, b_some]
        dsimp only
        rw [if_pos (by decide), sw1 (by decide), sw1 (by decide), sw1 (by decide), sw1 (by decide), swn, if_pos (by decide), y4]
    · refine ⟨W.2.2.2.2.2, μ1, μ2, ?_, ?_, w4⟩
      · rw [sw1 (by decide), sw1 (by decide), sw1 (by decide), sw1 (by decide), sw1 (by decide), swn, x7]
      · rw [b_some, if_neg (by decide), v6, b_some]
        dsimp only
        rw [if_pos (by decide), sw1 (by decide), sw1 (by decide), sw1 (by decide), sw1 (by decide), swn, if_neg (by decide), y5]
  · refine ⟨-5, μ1, μ2, ?_, ?_, w4⟩
    · rw [v2, b_some, if_pos rfl]
    · rw [b_some, if_neg (by decide), v5, b_some, if_neg (show ¬ (0 : Int32) ≤ (-5 : Int32) by decide)]
