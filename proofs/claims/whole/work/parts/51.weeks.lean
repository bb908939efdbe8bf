/-! WEEKS, on the book -/
/-- the gap noted so far: act and pale -/
def gnote (B B' : Nat → Int32) (acts : Nat) (gs : Int32 × Int32) : Int32 × Int32 := if gs.1 = -6 then (match gapO B B' with | some i => (nI acts, gapV (some i)) | none => gs) else gs
/-- failed, reason; book, acts, miles, gap -/
def wkA (P : Nat → Int32) (N : Nat) (R : Nat → Int32) : Nat → Nat → (Nat → Int32) → Nat → Int32 → Int32 × Int32 → (Int32 × Int32) × (Nat → Int32) × Nat × Int32 × Int32 × Int32
  | 0, _, B, acts, g, gs => ((-6, -6), B, acts, g, gs)
  | F + 1, i, B, acts, g, gs => if N ≤ i then ((-6, -6), B, acts, g, gs)
    else if whyA B R (actK P i) (actM P i) (actN P i) = 0 then wkA P N R F (i + actL P i) (doA B (actK P i) (actM P i) (actN P i)) (acts + 1) (g + milA B R (actK P i) (actM P i) (actN P i)) (gnote B (doA B (actK P i) (actM P i) (actN P i)) acts gs)
    else ((nI acts, nI (whyA B R (actK P i) (actM P i) (actN P i))), B, acts, g, gs)
theorem wk_end {P : Nat → Int32} {N : Nat} {R : Nat → Int32} {F i : Nat} {B : Nat → Int32} {acts : Nat} {g : Int32} {gs : Int32 × Int32} (h : N ≤ i) : wkA P N R F i B acts g gs = ((-6, -6), B, acts, g, gs) := by
  cases F with
  | zero => rfl
  | succ F => show (if N ≤ i then _ else _) = _; rw [if_pos h]
theorem whyA_le (B R : Nat → Int32) (k a n : Nat) : whyA B R k a n ≤ 7 := by
  unfold whyA
  repeat' split
  all_goals omega
/-- ranges of an act's numbers -/
theorem act_rng {P : Nat → Int32} {N i : Nat} (hN : N ≤ 60) (hi : i < N) (h : fine P N i) : (actK P i < 3 → actM P i < 7) ∧ (actK P i = 0 ∨ actK P i = 2 → actN P i < 7) ∧ (actK P i = 3 → 1 ≤ actN P i ∧ actN P i ≤ 9) ∧ fine P N (i + actL P i) ∧ actK P i ≤ 4 ∧ 1 ≤ actL P i ∧ i + actL P i ≤ N := by
  rcases parse hN hi h with ⟨c, f⟩ | ⟨c, l, c1, c2, f⟩ | ⟨c1, c2, l, ⟨d1, d2, f⟩ | ⟨d, f⟩ | ⟨d, l2, d1, d2, f⟩⟩
  · have hk : actK P i = 4 := by unfold actK; rw [if_pos c]
    have hl : actL P i = 1 := by unfold actL; rw [hk, if_pos rfl]
    rw [hk, hl]
    exact ⟨fun q => by omega, fun q => by omega, fun q => by omega, f, by omega, by omega, by omega⟩
  · have hk : actK P i = 3 := by unfold actK; rw [if_neg (by omega), if_pos c]
    have hl : actL P i = 2 := by unfold actL; rw [hk, if_neg (by decide), if_neg (by decide)]
    have hn : actN P i = pc P (i + 1) - 48 := by unfold actN; rw [hk, if_pos rfl]
    rw [hk, hl, hn]
    exact ⟨fun q => by omega, fun q => by omega, fun q => by omega, f, by omega, by omega, by omega⟩
  · have hk : actK P i = 0 := by unfold actK; rw [if_neg (by omega), if_neg (by omega), if_neg (by omega), if_neg (by omega)]
    have hl : actL P i = 2 := by unfold actL; rw [hk, if_neg (by decide), if_neg (by decide)]
    have hn : actN P i = pc P (i + 1) - 97 := by unfold actN; rw [hk, if_neg (by decide), if_neg (by decide), if_pos rfl]
    have hm : actM P i = pc P i - 65 := by unfold actM; rw [if_neg (by omega), if_neg (by omega)]
    rw [hk, hl, hn, hm]
    exact ⟨fun q => by omega, fun q => by omega, fun q => by omega, f, by omega, by omega, by omega⟩
  · have hk : actK P i = 1 := by unfold actK; rw [if_neg (by omega), if_neg (by omega), if_neg (by omega), if_pos d]
    have hl : actL P i = 2 := by unfold actL; rw [hk, if_neg (by decide), if_neg (by decide)]
    have hm : actM P i = pc P i - 65 := by unfold actM; rw [if_neg (by omega), if_neg (by omega)]
    rw [hk, hl, hm]
    exact ⟨fun q => by omega, fun q => by omega, fun q => by omega, f, by omega, by omega, by omega⟩
  · have hk : actK P i = 2 := by unfold actK; rw [if_neg (by omega), if_neg (by omega), if_pos d]
    have hl : actL P i = 3 := by unfold actL; rw [hk, if_neg (by decide), if_pos rfl]
    have hn : actN P i = pc P (i + 2) - 97 := by unfold actN; rw [hk, if_neg (by decide), if_pos rfl]
    have hm : actM P i = pc P i - 65 := by unfold actM; rw [if_neg (by omega), if_neg (by omega)]
    rw [hk, hl, hn, hm]
    exact ⟨fun q => by omega, fun q => by omega, fun q => by omega, f, by omega, by omega, by omega⟩
/-! the class: the numbers that the pad gives -/
section PADX
variable {μ : pm_M} {P : Nat → Int32} {N : Nat}
theorem sign_in {i : Nat} (hP : okP P N) (h43 : ∀ i, i < N → μ 43 i = P i) (h42 : μ 42 1 = nI N) (hi : i < N) : f_X3_signAt (nI i) μ = some (nI (pc P i)) := by
  have := hP.1
  unfold f_X3_signAt
  rw [if_neg (nI_pos (by omega)), h42, if_neg (nI_ge hi (by omega)), ck_in (by omega) (by omega), nI_clamp (by omega), h43 i hi]
  exact congrArg some (hP.at hi).2.2
theorem deed_eq (c : Nat) (hc : c < 127) : f_X3_deedKind (nI c) = some (nI (if c = 33 then 2 else if c = 42 then 1 else 0)) := by
  unfold f_X3_deedKind
  by_cases q : c = 33
  · subst q; rfl
  · rw [if_neg q, sw1 (show ¬ nI c = 33 from nI_ne (c := 33) q (by omega) (by omega))]
    by_cases q2 : c = 42
    · subst q2; rfl
    · rw [if_neg q2, sw1 (show ¬ nI c = 42 from nI_ne (c := 42) q2 (by omega) (by omega))]; rfl
theorem sub_nI {x : Nat} (k : Nat) (h : k ≤ x) : nI x - nI k = nI (x - k) := pk_sub h
theorem act_read {i : Nat} (hP : okP P N) (h43 : ∀ i, i < N → μ 43 i = P i) (h42 : μ 42 1 = nI N) (hi : i < N) (h : fine P N i) :
    f_X3_kindAt (nI i) μ = some (nI (actK P i)) ∧ (∃ m : Int32, f_X3_manAt (nI i) μ = some m ∧ (actK P i < 3 → m = nI (actM P i))) ∧ f_X3_numberAt (nI i) (nI (actK P i)) μ = some (nI (actN P i)) ∧ f_X3_lengthOf (nI (actK P i)) = some (nI (actL P i)) := by
  have hN := hP.1
  have s0 := sign_in (μ := μ) hP h43 h42 hi
  have b0 := hP.at hi
  have hman : f_X3_manAt (nI i) μ = some (nI (pc P i) - 65) := by unfold f_X3_manAt; rw [s0, b_some]
  rcases parse hN hi h with ⟨c, f⟩ | ⟨c, l, c1, c2, f⟩ | ⟨c1, c2, l, hh⟩
  · have hk : actK P i = 4 := by unfold actK; rw [if_pos c]
    have hl : actL P i = 1 := by unfold actL; rw [hk, if_pos rfl]
    have hn : actN P i = 0 := by unfold actN; rw [hk, if_neg (by decide), if_neg (by decide), if_neg (by decide)]
    refine ⟨?_, ⟨_, hman, fun q => by omega⟩, ?_, ?_⟩
    · unfold f_X3_kindAt; rw [s0, b_some, c, hk]; rfl
    · rw [hk, hn]; rfl
    · rw [hk, hl]; rfl
  · have hk : actK P i = 3 := by unfold actK; rw [if_neg (by omega), if_pos c]
    have hl : actL P i = 2 := by unfold actL; rw [hk, if_neg (by decide), if_neg (by decide)]
    have hn : actN P i = pc P (i + 1) - 48 := by unfold actN; rw [hk, if_pos rfl]
    refine ⟨?_, ⟨_, hman, fun q => by omega⟩, ?_, ?_⟩
    · unfold f_X3_kindAt; rw [s0, b_some, c, hk]; rfl
    · rw [hk, hn]
      unfold f_X3_numberAt
      rw [sw1 (by decide), sw1 (by decide), sw1 (by decide), sw0 (by decide), nI_1, sign_in hP h43 h42 l, b_some, show (48 : Int32) = nI 48 from rfl, sub_nI 48 (by omega)]
    · rw [hk, hl]; rfl
  · have s1 := sign_in (μ := μ) hP h43 h42 l
    have b1 := hP.at l
    have hm : actM P i = pc P i - 65 := by unfold actM; rw [if_neg (by omega), if_neg (by omega)]
    have hman2 : f_X3_manAt (nI i) μ = some (nI (actM P i)) := by rw [hman, hm, show (65 : Int32) = nI 65 from rfl, sub_nI 65 (by omega)]
    have hkind : f_X3_kindAt (nI i) μ = some (nI (actK P i)) := by
      unfold f_X3_kindAt
      rw [s0, b_some, sw1 (show ¬ nI (pc P i) = 46 from nI_ne (c := 46) (by omega) (by omega) (by omega)), sw1 (show ¬ nI (pc P i) = 119 from nI_ne (c := 119) (by omega) (by omega) (by omega)), swn, nI_1, s1, b_some, deed_eq _ (by omega), b_some]
      unfold actK
      rw [if_neg (show ¬ pc P i = 46 by omega), if_neg (show ¬ pc P i = 119 by omega)]
    refine ⟨hkind, ⟨_, hman2, fun _ => rfl⟩, ?_⟩
    rcases hh with ⟨d1, d2, f⟩ | ⟨d, f⟩ | ⟨d, l2, d1, d2, f⟩
    · have hk : actK P i = 0 := by unfold actK; rw [if_neg (by omega), if_neg (by omega), if_neg (by omega), if_neg (by omega)]
      have hl : actL P i = 2 := by unfold actL; rw [hk, if_neg (by decide), if_neg (by decide)]
      have hn : actN P i = pc P (i + 1) - 97 := by unfold actN; rw [hk, if_neg (by decide), if_neg (by decide), if_pos rfl]
      rw [hk, hl, hn]
      refine ⟨?_, rfl⟩
      unfold f_X3_numberAt
      rw [sw0 (by decide), nI_1, s1, b_some, show (97 : Int32) = nI 97 from rfl, sub_nI 97 (by omega)]
    · have hk : actK P i = 1 := by unfold actK; rw [if_neg (by omega), if_neg (by omega), if_neg (by omega), if_pos d]
      have hl : actL P i = 2 := by unfold actL; rw [hk, if_neg (by decide), if_neg (by decide)]
      have hn : actN P i = 0 := by unfold actN; rw [hk, if_neg (by decide), if_neg (by decide), if_neg (by decide)]
      rw [hk, hl, hn]
      exact ⟨rfl, rfl⟩
    · have hk : actK P i = 2 := by unfold actK; rw [if_neg (by omega), if_neg (by omega), if_pos d]
      have hl : actL P i = 3 := by unfold actL; rw [hk, if_neg (by decide), if_pos rfl]
      have hn : actN P i = pc P (i + 2) - 97 := by unfold actN; rw [hk, if_neg (by decide), if_pos rfl]
      rw [hk, hl, hn]
      refine ⟨?_, rfl⟩
      unfold f_X3_numberAt
      rw [sw1 (by decide), sw1 (by decide), sw0 (by decide), show nI i + (2 : Int32) = nI (i + 2) from nI_add i 2, sign_in hP h43 h42 l2, b_some, show (97 : Int32) = nI 97 from rfl, sub_nI 97 (by omega)]
end PADX
