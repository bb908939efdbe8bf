/-! reading the pad -/
def stA (s c : Nat) : Nat :=
  if s = 0 then (if c = 46 then 0 else if c = 119 then 3 else if 65 ≤ c ∧ c ≤ 71 then 1 else 4)
  else if s = 1 then (if c = 33 then 2 else if c = 42 then 0 else if 97 ≤ c ∧ c ≤ 103 then 0 else 4)
  else if s = 2 then (if 97 ≤ c ∧ c ≤ 103 then 0 else 4)
  else (if 49 ≤ c ∧ c ≤ 57 then 0 else 4)
theorem step_tab : ∀ s, s < 4 → ∀ c, c < 127 → f_X3_nextAfter (nI s) (nI c) = some (nI (stA s c)) ∧ f_X10_step (nI s) (nI c) = some (if stA s c = 4 then -6 else nI (stA s c)) := by decide +kernel
theorem stA_lt (s c : Nat) : stA s c ≤ 4 := by
  unfold stA
  repeat' split
  all_goals omega
def pc (P : Nat → Int32) (i : Nat) : Nat := (P i).toNatClampNeg
def scan (P : Nat → Int32) (N : Nat) : Nat → Nat → Nat → Int32
  | 0, _, s => if s = 0 then -6 else nI N
  | n + 1, i, s => if stA s (pc P i) = 4 then nI i else scan P N n (i + 1) (stA s (pc P i))
def okP (P : Nat → Int32) (N : Nat) : Prop := N ≤ 60 ∧ ∀ i, i < N → ∃ c : Nat, 33 ≤ c ∧ c ≤ 126 ∧ P i = nI c
theorem okP.at {P : Nat → Int32} {N i : Nat} (h : okP P N) (hi : i < N) : 33 ≤ pc P i ∧ pc P i ≤ 126 ∧ P i = nI (pc P i) := by
  obtain ⟨c, h1, h2, e⟩ := h.2 i hi
  unfold pc
  rw [e, nI_clamp (by omega)]
  exact ⟨h1, h2, rfl⟩
theorem xfault {μ : pm_M} {P : Nat → Int32} {N : Nat} (hP : okP P N) (h43 : ∀ i, i < N → μ 43 i = P i) (h42 : μ 42 1 = nI N) : f_X3_faultPlace μ = some (scan P N N 0 0) := by
  have hN := hP.1
  unfold f_X3_faultPlace
  refine it_wp (fun k s => ∃ i st, s = (nI st, nI i) ∧ i + k = N + 1 ∧ i ≤ N ∧ st < 4 ∧ scan P N (N - i) i st = scan P N N 0 0) (fun o => o = some (scan P N N 0 0)) (fun s h => by obtain ⟨i, st, -, h1, h2, -⟩ := h; omega) (fun k s h T hT => ?_) 5000 (N + 1) _ (by omega) ⟨0, 0, rfl, by omega, by omega, by omega, rfl⟩
  obtain ⟨i, st, rfl, e1, e2, e3, e4⟩ := h
  unfold f_X3_faultPlace_b4
  dsimp only
  rw [h42]
  by_cases q : i = N
  · subst q
    rw [if_pos (nI_le (Nat.le_refl i) (by omega)), ← e4, Nat.sub_self]
    show (if nI st = 0 then some (-6) else some (nI i)) = some (if st = 0 then -6 else nI i)
    by_cases g : st = 0
    · rw [if_pos g, if_pos (by rw [g]; rfl)]
    · rw [if_neg g, if_neg (show ¬ nI st = 0 from nI_ne (c := 0) g (by omega) (by omega))]
  · have hi : i < N := by omega
    obtain ⟨c1, c2, c3⟩ := hP.at hi
    rw [if_neg (nI_ge hi (by omega)), ck_in (by omega) (by omega), nI_clamp (by omega), h43 i hi, c3, (step_tab st e3 (pc P i) (by omega)).1, b_some]
    rw [show N - i = (N - (i + 1)) + 1 by omega] at e4
    have e4 : (if stA st (pc P i) = 4 then nI i else scan P N (N - (i + 1)) (i + 1) (stA st (pc P i))) = scan P N N 0 0 := e4
    have := stA_lt st (pc P i)
    by_cases g : stA st (pc P i) = 4
    · rw [if_pos g] at e4
      rw [if_pos (by rw [g]; rfl), e4]
    · rw [if_neg g] at e4
      rw [if_neg (show ¬ nI (stA st (pc P i)) = 4 from nI_ne (c := 4) g (by omega) (by omega)), nI_1]
      exact hT _ ⟨i + 1, stA st (pc P i), rfl, by omega, by omega, by omega, e4⟩
theorem mfault {μ : pm_M} {P : Nat → Int32} {N : Nat} (hP : okP P N) (h56 : ∀ i, i < N → μ 56 i = P i) (h50 : μ 50 6 = nI N) : f_X10_faultOf μ = some (scan P N N 0 0) := by
  have hN := hP.1
  unfold f_X10_faultOf
  refine it_wp (fun k s => ∃ i st, s = (nI st, nI i) ∧ i + k = N + 1 ∧ i ≤ N ∧ st < 4 ∧ scan P N (N - i) i st = scan P N N 0 0) (fun o => o = some (scan P N N 0 0)) (fun s h => by obtain ⟨i, st, -, h1, h2, -⟩ := h; omega) (fun k s h T hT => ?_) 5000 (N + 1) _ (by omega) ⟨0, 0, rfl, by omega, by omega, by omega, rfl⟩
  obtain ⟨i, st, rfl, e1, e2, e3, e4⟩ := h
  unfold f_X10_faultOf_b4
  dsimp only
  rw [h50]
  by_cases q : i = N
  · subst q
    rw [if_pos (nI_le (Nat.le_refl i) (by omega)), ← e4, Nat.sub_self]
    show (if nI st = 0 then some (-6) else some (nI i)) = some (if st = 0 then -6 else nI i)
    by_cases g : st = 0
    · rw [if_pos g, if_pos (by rw [g]; rfl)]
    · rw [if_neg g, if_neg (show ¬ nI st = 0 from nI_ne (c := 0) g (by omega) (by omega))]
  · have hi : i < N := by omega
    obtain ⟨c1, c2, c3⟩ := hP.at hi
    rw [if_neg (nI_ge hi (by omega)), ck_in (by omega) (by omega), nI_clamp (by omega), h56 i hi, c3, (step_tab st e3 (pc P i) (by omega)).2, b_some]
    rw [show N - i = (N - (i + 1)) + 1 by omega] at e4
    have e4 : (if stA st (pc P i) = 4 then nI i else scan P N (N - (i + 1)) (i + 1) (stA st (pc P i))) = scan P N N 0 0 := e4
    have := stA_lt st (pc P i)
    by_cases g : stA st (pc P i) = 4
    · rw [if_pos g] at e4
      rw [if_pos g, if_neg (by decide), e4]
    · rw [if_neg g] at e4
      rw [if_neg g, if_pos (nI_pos' (by omega)), nI_1]
      exact hT _ ⟨i + 1, stA st (pc P i), rfl, by omega, by omega, by omega, e4⟩
/-- the pad of a memory that is in the relation -/
theorem pad_of {μ : pm_M} (h : R4 μ) : ∃ N : Nat, okP (μ 56) N ∧ (∀ i, i < N → μ 43 i = μ 56 i) ∧ μ 42 1 = nI N ∧ μ 50 6 = nI N := by
  obtain ⟨N, hN, e1, e2, hp⟩ := h
  exact ⟨N, ⟨hN, fun i hi => (hp i hi).2⟩, fun i hi => (hp i hi).1, e1, e2⟩
theorem okfault : ok_fault Rel := by
  intro μ hR
  obtain ⟨N, hP, h43, h42, h50⟩ := pad_of hR.2.2.2.1
  refine ⟨scan (μ 56) N N 0 0, ?_, ?_, hR⟩
  · unfold f_X9_fault; rw [xfault hP h43 h42, b_some]
  · unfold f_X10_fault; rw [mfault hP (fun _ _ => rfl) h50, b_some]
/-! an act's text, where the pad has no fault -/
def fine (P : Nat → Int32) (N i : Nat) : Prop := scan P N (N - i) i 0 = -6
theorem nI_m6 {n : Nat} (h : n < 2 ^ 31) : ¬ nI n = -6 := fun q => nI_pos h (by rw [q]; decide)
theorem scan_step {P : Nat → Int32} {N i s : Nat} (hN : N ≤ 60) (hi : i ≤ N) (hs : ¬ s = 0 ∨ i < N) (h : scan P N (N - i) i s = -6) : i < N ∧ ¬ stA s (pc P i) = 4 ∧ scan P N (N - (i + 1)) (i + 1) (stA s (pc P i)) = -6 := by
  have hlt : i < N := by
    rcases hs with hs | hs
    · rcases Nat.eq_or_lt_of_le hi with g | g
      · exfalso
        subst g
        rw [Nat.sub_self] at h
        have h : (if s = 0 then (-6 : Int32) else nI i) = -6 := h
        rw [if_neg hs] at h
        exact nI_m6 (by omega) h
      · exact g
    · exact hs
  rw [show N - i = (N - (i + 1)) + 1 by omega] at h
  have h : (if stA s (pc P i) = 4 then nI i else scan P N (N - (i + 1)) (i + 1) (stA s (pc P i))) = -6 := h
  by_cases g : stA s (pc P i) = 4
  · rw [if_pos g] at h
    exact absurd h (nI_m6 (by omega))
  · rw [if_neg g] at h
    exact ⟨hlt, g, h⟩
/-- kind, man, number, length of the act at place i -/
def actK (P : Nat → Int32) (i : Nat) : Nat := if pc P i = 46 then 4 else if pc P i = 119 then 3 else if pc P (i + 1) = 33 then 2 else if pc P (i + 1) = 42 then 1 else 0
def actM (P : Nat → Int32) (i : Nat) : Nat := if pc P i = 46 then 0 else if pc P i = 119 then 0 else pc P i - 65
def actN (P : Nat → Int32) (i : Nat) : Nat := if actK P i = 3 then pc P (i + 1) - 48 else if actK P i = 2 then pc P (i + 2) - 97 else if actK P i = 0 then pc P (i + 1) - 97 else 0
def actL (P : Nat → Int32) (i : Nat) : Nat := if actK P i = 4 then 1 else if actK P i = 2 then 3 else 2
theorem parse {P : Nat → Int32} {N i : Nat} (hN : N ≤ 60) (hi : i < N) (h : fine P N i) :
    (pc P i = 46 ∧ fine P N (i + 1)) ∨ (pc P i = 119 ∧ i + 1 < N ∧ 49 ≤ pc P (i + 1) ∧ pc P (i + 1) ≤ 57 ∧ fine P N (i + 2)) ∨
    (65 ≤ pc P i ∧ pc P i ≤ 71 ∧ i + 1 < N ∧ ((97 ≤ pc P (i + 1) ∧ pc P (i + 1) ≤ 103 ∧ fine P N (i + 2)) ∨ (pc P (i + 1) = 42 ∧ fine P N (i + 2)) ∨ (pc P (i + 1) = 33 ∧ i + 2 < N ∧ 97 ≤ pc P (i + 2) ∧ pc P (i + 2) ≤ 103 ∧ fine P N (i + 3)))) := by
  obtain ⟨-, a2, a3⟩ := scan_step hN (Nat.le_of_lt hi) (Or.inr hi) h
  unfold stA at a2 a3
  rw [if_pos rfl] at a2 a3
  by_cases q1 : pc P i = 46
  · rw [if_pos q1] at a3
    exact Or.inl ⟨q1, a3⟩
  rw [if_neg q1] at a2 a3
  by_cases q2 : pc P i = 119
  · rw [if_pos q2] at a3
    obtain ⟨b1, b2, b3⟩ := scan_step hN (by omega) (Or.inl (by decide)) a3
    unfold stA at b2 b3
    rw [if_neg (by decide), if_neg (by decide), if_neg (by decide)] at b2 b3
    by_cases q3 : 49 ≤ pc P (i + 1) ∧ pc P (i + 1) ≤ 57
    · rw [if_pos q3] at b3
      exact Or.inr (Or.inl ⟨q2, b1, q3.1, q3.2, b3⟩)
    · rw [if_neg q3] at b2; exact absurd rfl b2
  rw [if_neg q2] at a2 a3
  by_cases q3 : ¬ (65 ≤ pc P i ∧ pc P i ≤ 71)
  · rw [if_neg q3] at a2; exact absurd rfl a2
  have q3 : 65 ≤ pc P i ∧ pc P i ≤ 71 := Decidable.not_not.mp q3
  rw [if_pos q3] at a3
  obtain ⟨b1, b2, b3⟩ := scan_step hN (by omega) (Or.inl (by decide)) a3
  unfold stA at b2 b3
  rw [if_neg (by decide), if_pos rfl] at b2 b3
  refine Or.inr (Or.inr ⟨q3.1, q3.2, b1, ?_⟩)
  by_cases q4 : pc P (i + 1) = 33
  · rw [if_pos q4] at b3
    obtain ⟨c1, c2, c3⟩ := scan_step hN (by omega) (Or.inl (by decide)) b3
    unfold stA at c2 c3
    rw [if_neg (by decide), if_neg (by decide), if_pos rfl] at c2 c3
    by_cases q5 : 97 ≤ pc P (i + 2) ∧ pc P (i + 2) ≤ 103
    · rw [if_pos q5] at c3
      exact Or.inr (Or.inr ⟨q4, c1, q5.1, q5.2, c3⟩)
    · rw [if_neg q5] at c2; exact absurd rfl c2
  rw [if_neg q4] at b2 b3
  by_cases q5 : pc P (i + 1) = 42
  · rw [if_pos q5] at b3
    exact Or.inr (Or.inl ⟨q5, b3⟩)
  rw [if_neg q5] at b2 b3
  by_cases q6 : 97 ≤ pc P (i + 1) ∧ pc P (i + 1) ≤ 103
  · rw [if_pos q6] at b3
    exact Or.inl ⟨q6.1, q6.2, b3⟩
  · rw [if_neg q6] at b2; exact absurd rfl b2
