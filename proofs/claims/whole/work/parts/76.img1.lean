/-! IMAGES: copying a whole -/
def cpd (ν : pm_M) (b : Nat) (μ : pm_M) (c : Nat) : Prop := (∀ i, i < 49 → ν (b + 2) i = μ (c + 2) i) ∧ (∀ i, i < 49 → ν (b + 3) i = μ (c + 3) i) ∧ (∀ i, i < 7 → ν (b + 4) i = μ (c + 4) i) ∧ (∀ i, i < 7 → ν (b + 5) i = μ (c + 5) i) ∧ ν (b + 1) 4 = μ (c + 1) 4 ∧ (∀ i, i < 8 → ν (b + 7) i = μ (c + 7) i) ∧ (∀ i, i < 32 → ν (b + 8) i = μ (c + 8) i) ∧ (∀ i, i < 410 → ν (b + 10) i = μ (c + 10) i) ∧ ν (b + 9) 2 = μ (c + 9) 2 ∧ ν (b + 9) 3 = μ (c + 9) 3
theorem cpd.rf {ν μ : pm_M} {b : Nat} (h : ∀ j, b + 1 ≤ j → j ≤ b + 10 → ν j = μ j) : cpd ν b μ b := by
  refine ⟨fun i _ => ?_, fun i _ => ?_, fun i _ => ?_, fun i _ => ?_, ?_, fun i _ => ?_, fun i _ => ?_, fun i _ => ?_, ?_, ?_⟩ <;> rw [h _ (by omega) (by omega)]
theorem cp2 {b c : Nat} {μ : pm_M} (h : b + 4 < c ∨ c + 4 < b) : ∃ ν, f_X2_copyFrom b c μ = some ν ∧ (∀ j, (j < b ∨ b + 4 < j) → ν j = μ j) ∧ (∀ i, i < 49 → ν (b + 1) i = μ (c + 1) i) ∧ (∀ i, i < 49 → ν (b + 2) i = μ (c + 2) i) ∧ (∀ i, i < 7 → ν (b + 3) i = μ (c + 3) i) ∧ (∀ i, i < 7 → ν (b + 4) i = μ (c + 4) i) ∧ ν b 4 = μ c 4 := by
  refine ⟨pm_up (pm_cp (pm_cp (pm_cp (pm_cp μ (c + 1) (b + 1) 49) (c + 2) (b + 2) 49) (c + 3) (b + 3) 7) (c + 4) (b + 4) 7) b 4 (pm_cp (pm_cp (pm_cp (pm_cp μ (c + 1) (b + 1) 49) (c + 2) (b + 2) 49) (c + 3) (b + 3) 7) (c + 4) (b + 4) 7 c 4), rfl, fun j hj => ?_, fun i hi => ?_, fun i hi => ?_, fun i hi => ?_, fun i hi => ?_, ?_⟩
  · rw [up_o (by omega), cp_o (by omega), cp_o (by omega), cp_o (by omega), cp_o (by omega)]
  · rw [up_o (by omega), cp_o (by omega), cp_o (by omega), cp_o (by omega), cp_r hi]
  · rw [up_o (by omega), cp_o (by omega), cp_o (by omega), cp_r hi, cp_o (by omega)]
  · rw [up_o (by omega), cp_o (by omega), cp_r hi, cp_o (by omega), cp_o (by omega)]
  · rw [up_o (by omega), cp_r hi, cp_o (by omega), cp_o (by omega), cp_o (by omega)]
  · rw [up_r, upd_s, cp_o (by omega), cp_o (by omega), cp_o (by omega), cp_o (by omega)]
theorem cp1 {b c : Nat} {μ : pm_M} (h : b + 2 < c ∨ c + 2 < b) : ∃ ν, f_X1_copyFrom b c μ = some ν ∧ (∀ j, (j ≤ b ∨ b + 2 < j) → ν j = μ j) ∧ (∀ i, i < 8 → ν (b + 1) i = μ (c + 1) i) ∧ (∀ i, i < 32 → ν (b + 2) i = μ (c + 2) i) := by
  refine ⟨pm_cp (pm_cp μ (c + 1) (b + 1) 8) (c + 2) (b + 2) 32, rfl, fun j hj => ?_, fun i hi => ?_, fun i hi => ?_⟩
  · rw [cp_o (by omega), cp_o (by omega)]
  · rw [cp_o (by omega), cp_r hi]
  · rw [cp_r hi, cp_o (by omega)]
theorem cp6 {b c : Nat} {μ : pm_M} (h : b + 2 < c ∨ c + 2 < b) : ∃ ν, f_X6_copyFrom b c μ = some ν ∧ (∀ j, (j < b ∨ b + 1 < j) → ν j = μ j) ∧ (∀ i, i < 410 → ν (b + 1) i = μ (c + 1) i) ∧ ν b 2 = μ c 2 ∧ ν b 3 = μ c 3 := by
  refine ⟨pm_up (pm_up (pm_cp μ (c + 1) (b + 1) 410) b 2 (pm_cp μ (c + 1) (b + 1) 410 c 2)) b 3 (pm_up (pm_cp μ (c + 1) (b + 1) 410) b 2 (pm_cp μ (c + 1) (b + 1) 410 c 2) c 3), rfl, fun j hj => ?_, fun i hi => ?_, ?_, ?_⟩
  · rw [up_o (by omega), up_o (by omega), cp_o (by omega)]
  · rw [up_o (by omega), up_o (by omega), cp_r hi]
  · rw [up_r, upd_n (by decide), up_r, upd_s, cp_o (by omega)]
  · rw [up_r, upd_s, up_o (by omega), cp_o (by omega)]
theorem cp8 {b c : Nat} {μ : pm_M} (h : b + 11 < c ∨ c + 11 < b) : ∃ ν, f_X8_copyFrom b c μ = some ν ∧ (∀ j, (j ≤ b ∨ b + 10 < j) → ν j = μ j) ∧ cpd ν b μ c := by
  obtain ⟨m1, a0, a1, a2, a3, a4, a5, a6⟩ := cp2 (b := b + 1) (c := c + 1) (μ := μ) (by omega)
  obtain ⟨m2, b0, b1, b2, b3⟩ := cp1 (b := b + 6) (c := c + 6) (μ := m1) (by omega)
  obtain ⟨m3, c0, c1, c2, c3, c4⟩ := cp6 (b := b + 9) (c := c + 9) (μ := m2) (by omega)
  refine ⟨m3, by unfold f_X8_copyFrom; rw [a0, b_some, b0, b_some, c0, b_some], fun j hj => ?_, fun i hi => ?_, fun i hi => ?_, fun i hi => ?_, fun i hi => ?_, ?_, fun i hi => ?_, fun i hi => ?_, fun i hi => ?_, ?_, ?_⟩
  · rw [c1 j (by omega), b1 j (by omega), a1 j (by omega)]
  · rw [c1 _ (by omega), b1 _ (by omega)]; exact a2 i hi
  · rw [c1 _ (by omega), b1 _ (by omega)]; exact a3 i hi
  · rw [c1 _ (by omega), b1 _ (by omega)]; exact a4 i hi
  · rw [c1 _ (by omega), b1 _ (by omega)]; exact a5 i hi
  · rw [c1 _ (by omega), b1 _ (by omega)]; exact a6
  · rw [c1 _ (by omega)]; exact (b2 i hi).trans (by rw [a1 _ (by omega)])
  · rw [c1 _ (by omega)]; exact (b3 i hi).trans (by rw [a1 _ (by omega)])
  · exact (c2 i hi).trans (by rw [b1 _ (by omega), a1 _ (by omega)])
  · exact c3.trans (by rw [b1 _ (by omega), a1 _ (by omega)])
  · exact c4.trans (by rw [b1 _ (by omega), a1 _ (by omega)])
/-- a whole of the class against the model's numbers -/
def rwh (μ : pm_M) (w : Nat) (B R rq sg : Nat → Int32) (n : Int32) : Prop := rmoor (μ (w + 2)) (μ (w + 3)) (μ (w + 4)) (μ (w + 5)) (μ (w + 1) 4) B R ∧ okB B R ∧ rlik (μ (w + 7)) (μ (w + 8)) rq ∧ rsig (μ (w + 10)) (μ (w + 9) 2) (μ (w + 9) 3) sg n
theorem fitL_cg {sg sg' : Nat → Int32} {N : Nat} (hN : N ≤ 8) (h : ∀ i, i < 24 → sg' i = sg i) : fitL sg' N = fitL sg N := by
  unfold fitL
  congr 1
  funext c
  rw [Bool.eq_iff_iff, sfit_iff, sfit_iff]
  have e : ∀ j, j < N → sm sg' c j = sm sg c j := fun j hj => by
    unfold sm
    rw [h _ (by omega), h _ (by omega), h _ (by omega)]
  exact ⟨fun g j hj => by rw [← e j hj]; exact g j hj, fun g j hj => by rw [e j hj]; exact g j hj⟩
theorem rwh_cg {μ ν : pm_M} {b c : Nat} {B R rq sg B' R' rq' sg' : Nat → Int32} {n n' : Int32} (h : rwh μ c B R rq sg n) (hc : cpd ν b μ c) (hB : ∀ i, i < 64 → B' i = B i) (hR : ∀ i, i < 49 → R' i = R i) (hw : ∀ i, i < 32 → rq' i = rq i) (hs : ∀ i, i < 24 → sg' i = sg i) (hn : n' = n) : rwh ν b B' R' rq' sg' n' := by
  obtain ⟨⟨r1, r2, r3, r4, r5⟩, ok, rl, N, hN, s1, s2, s3, s4, s5⟩ := h
  obtain ⟨c1, c2, c3, c4, c5, c6, c7, c8, c9, c10⟩ := hc
  refine ⟨⟨fun i hi => ?_, fun i hi => ?_, fun i hi => ?_, fun i hi => ?_, ?_⟩, okB_congr ok hB hR, fun s o hs1 ho => ?_, N, hN, ?_, ?_, fun j hj => ?_, ?_, fun k x hx => ?_⟩
  · rw [c1 i hi, r1 i hi, hB i (by omega)]
  · rw [c2 i hi, r2 i hi, hR i hi]
  · rw [c3 i hi, r3 i hi, hB _ (by omega)]
  · rw [c4 i hi, r4 i hi, hB _ (by omega)]
  · rw [c5, r5, hB _ (by omega)]
  · obtain ⟨d, d1, d2, d3⟩ := rl s o hs1 ho
    refine ⟨d, fun i hi => ⟨(d1 i hi).1, ?_, ?_⟩, d2, ?_⟩
    · rw [hw _ (by omega)]; exact (d1 i hi).2.1
    · rw [c7 _ (by have := (d1 i hi).1; omega)]; exact (d1 i hi).2.2
    · rw [c6 _ (by omega)]; exact d3
  · rw [c10, s1]
  · rw [hn, s2]
  · rw [hs _ (by omega), hs _ (by omega), hs _ (by omega)]; exact s3 j hj
  · rw [c9, s4, fitL_cg hN hs]
  · rw [fitL_cg hN hs] at hx
    have hk : k < 410 := Nat.lt_of_lt_of_le (List.getElem?_eq_some_iff.mp hx).1 (fit_len sg N)
    rw [c8 k hk]
    exact s5 k x hx
def imgB (g : Nat → Int32) (k : Nat) : Nat → Int32 := fun i => g (180 * k + i)
def imgR (g : Nat → Int32) (k : Nat) : Nat → Int32 := fun i => g (180 * k + 64 + i)
def imgW (g : Nat → Int32) (k : Nat) : Nat → Int32 := fun i => g (180 * k + 113 + i)
def imgS (g : Nat → Int32) (k : Nat) : Nat → Int32 := fun i => g (180 * k + 145 + i)
theorem rimg_cg {μ ν : pm_M} {w k : Nat} (h : rimg μ w k) (hr : ∀ j, w ≤ j → j ≤ w + 10 → ν j = μ j) (h66 : ∀ i, i < 171 → ν 66 (180 * k + i) = μ 66 (180 * k + i)) (h67 : ν 67 k = μ 67 k) : rimg ν w k := by
  unfold rimg at *
  refine ⟨by rw [hr w (by omega) (by omega), h67]; exact h.1, ?_⟩
  rw [h67]
  rcases h.2 with z | ⟨z, hh⟩
  · exact Or.inl z
  · have hh : rwh μ w (imgB (μ 66) k) (imgR (μ 66) k) (imgW (μ 66) k) (imgS (μ 66) k) (μ 66 (180 * k + 170)) := hh
    have hn : rwh ν w (imgB (ν 66) k) (imgR (ν 66) k) (imgW (ν 66) k) (imgS (ν 66) k) (ν 66 (180 * k + 170)) := rwh_cg hh (cpd.rf (fun j a b => hr j (by omega) (by omega))) (fun i hi => h66 i (by omega)) (fun i hi => by unfold imgR; rw [Nat.add_assoc]; exact h66 _ (by omega)) (fun i hi => by unfold imgW; rw [Nat.add_assoc]; exact h66 _ (by omega)) (fun i hi => by unfold imgS; rw [Nat.add_assoc]; exact h66 _ (by omega)) (h66 170 (by omega))
    exact Or.inr ⟨z, hn⟩
