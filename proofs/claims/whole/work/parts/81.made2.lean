theorem all_r {n : Nat} {p : Nat → Bool} (h : (List.range n).all p = true) : ∀ i, i < n → p i = true := fun i hi => List.all_eq_true.mp h i (List.mem_range.mpr hi)
theorem made_Rel {μ : pm_M} (h1 : chk1 μ = true) (h2 : chk2 μ = true) (h3 : chk3 μ = true) (h4 : chk4 μ = true) : Rel μ := by
  unfold chk1 at h1
  unfold chk2 at h2
  unfold chk3 at h3
  unfold chk4 at h4
  simp only [Bool.and_eq_true, decide_eq_true_eq] at h1 h2 h3
  obtain ⟨⟨⟨a1, a2⟩, a3⟩, a4⟩ := h1
  obtain ⟨b1, b2⟩ := h2
  obtain ⟨⟨⟨⟨⟨⟨⟨⟨⟨c1, c2⟩, c3⟩, c4⟩, c5⟩, c6⟩, c7⟩, c8⟩, c9⟩, c10⟩ := h3
  have A : ∀ i, i < 49 → ((μ 3 i = -6 ∧ μ 51 i = -6) ∧ μ 4 i = 0) ∧ μ 53 i = 0 := fun i hi => by
    have := all_r a1 i hi
    simp only [Bool.and_eq_true, decide_eq_true_eq] at this
    exact this
  have F : ∀ i, i < 7 → ((μ 5 i = nI i ∧ μ 51 (49 + i) = nI i) ∧ μ 6 i = 5) ∧ μ 51 (56 + i) = 5 := fun i hi => by
    have := all_r a2 i hi
    simp only [Bool.and_eq_true, decide_eq_true_eq] at this
    exact this
  have B1 : ∀ i, i < 8 → μ 8 i = 123 := fun i hi => by
    have := all_r b1 i hi
    simp only [decide_eq_true_eq] at this
    exact this
  have B2 : ∀ i, i < 32 → μ 9 i = nI (i % 4) ∧ μ 54 i = nI (i % 4) := fun i hi => by
    have := all_r b2 i hi
    simp only [Bool.and_eq_true, decide_eq_true_eq] at this
    exact this
  have C : ∀ i, i < 61 → μ 49 i = nI (wlit.getD i 0) := fun i hi => by
    have := all_r c10 i hi
    simp only [decide_eq_true_eq] at this
    exact this
  have D : ∀ i, i < 410 → μ 11 i = nI i := fun i hi => by
    have := all_r h4 i hi
    simp only [decide_eq_true_eq] at this
    exact this
  refine ⟨⟨⟨fun i hi => ?_, fun i hi => ?_, fun i hi => ?_, fun i hi => ?_, ?_⟩, fun a c ha hc => ?_, fun a ha => ?_, fun i hi => ?_, fun f hf => ?_, fun f hf => ?_, ?_, fun a c ha hc => ?_, fun a ha => ?_, fun i hi => ?_⟩, fun s o hs ho => ?_, ?_, ?_, ⟨⟨?_, ?_⟩, ⟨?_, ?_⟩⟩, fun n hn => ?_⟩
  · rw [(A i hi).1.1.1, (A i hi).1.1.2]
  · rw [(A i hi).1.2, (A i hi).2]
  · rw [(F i hi).1.1.1, (F i hi).1.1.2]
  · rw [(F i hi).1.2, (F i hi).2]
  · rw [a3, a4]
  · rw [(A _ (by omega)).1.1.2, (A _ (by omega)).1.1.2]
  · exact (A _ (by omega)).1.1.2
  · exact Or.inl (A i hi).1.1.2
  · exact ⟨f, hf, (F f hf).1.1.2⟩
  · exact ⟨5, by omega, (F f hf).2⟩
  · exact ⟨0, by omega, a4⟩
  · rw [(A _ (by omega)).2, (A _ (by omega)).2]
  · exact (A _ (by omega)).2
  · exact ⟨0, by omega, (A i hi).2⟩
  · refine ⟨fun i => i, fun i hi => ⟨hi, ?_, ?_⟩, fun i j _ _ h => h, ?_⟩
    · rw [(B2 _ (by omega)).2, show (16 * s + 4 * o + i) % 4 = i by omega]
    · show μ 9 (16 * s + 4 * o + i) = nI i
      rw [(B2 _ (by omega)).1, show (16 * s + 4 * o + i) % 4 = i by omega]
    · rw [B1 _ (by omega)]; rfl
  · refine ⟨0, by omega, c2, c3, fun j hj => by omega, ?_, fun k x hx => ?_⟩
    · rw [c1, fit0, List.length_range]; rfl
    · rw [fit0] at hx
      obtain ⟨hk, e⟩ := List.getElem?_eq_some_iff.mp hx
      rw [List.getElem_range] at e
      rw [List.length_range] at hk
      rw [D k hk, e]
  · exact ⟨0, by omega, c4, c5, fun i hi => by omega⟩
  · rw [c6, c8]
  · exact Or.inl c8
  · rw [c7, c9]
  · exact Or.inl c9
  · rw [C n (by omega), wt_eq]
theorem made : ∃ μ2, lw_made μ2 ∧ Rel μ2 := by
  have e1 := mm_1
  have e2 := mm_2
  have e3 := mm_3
  have e4 := mm_4
  have key : ∀ μ2, MM = some μ2 → lw_made μ2 := fun μ2 h => by
    unfold MM at h
    obtain ⟨μ1, h1, h2⟩ := Option.bind_eq_some_iff.mp h
    exact ⟨μ1, h1, h2⟩
  generalize MM = M at e1 e2 e3 e4 key
  cases M with
  | none => cases e1
  | some μ2 => exact ⟨μ2, key μ2 rfl, made_Rel (Option.some.inj e1) (Option.some.inj e2) (Option.some.inj e3) (Option.some.inj e4)⟩
