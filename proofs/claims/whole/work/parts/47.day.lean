/-! the class's day, and the gaps that an act makes -/
section DAY
variable {b : Nat} {B R : Nat → Int32}
theorem cmp_eq (x y : Int32) : f_J6_compare_7cf53 x y = some (cmpA x y) := by
  unfold f_J6_compare_7cf53 cmpA
  split
  · split <;> rfl
  · rfl
/-- one pair of farms -/
theorem day1 {μ : pm_M} {B' : Nat → Int32} {a c : Nat} {v2 : Int32 × pm_M} (hv : v2.1 = nI a) (ha : a < 7) (hc : c < 7) (hac : a < c) (hr : repM μ b B' R) (T : Int32 × pm_M → Option pm_M) (E : pm_M → Option pm_M) :
    ∃ ν, f_X2_passDay_b12 b v2 (nI c, μ) T E = T (nI (c + 1), ν) ∧ repM ν b (dstep B' (7 * a + c)) R ∧ frM b μ ν ∧ ν b = μ b := by
  obtain ⟨r1, r2, r3, r4, r5⟩ := id hr
  have hd : (7 * a + c) / 7 = a := by omega
  have hm : (7 * a + c) % 7 = c := by omega
  unfold f_X2_passDay_b12
  rw [if_neg (show ¬ (7 : Int32) ≤ nI c from nI_ge (b := 7) hc (by omega))]
  dsimp only
  rw [hv, ix7, ck_in (by omega) (by omega), nI_clamp (by omega), jn_eq]
  by_cases q : μ (b + 1) (7 * a + c) = 0
  · rw [if_pos q, ck_in ha (by omega), ck_in hc (by omega), nI_clamp (by omega), nI_clamp (by omega), cmp_eq, b_some, ck_in ha (by omega), ck_in ha (by omega), let_eq, ck_in hc (by omega), ck_in hc (by omega), let_eq, nI_1, up_r, upd_n (show c ≠ a by omega)]
    refine ⟨_, rfl, ?_, (frM.rf.up (by omega)).up (by omega), ?_⟩
    · have hq : B' (7 * a + c) = 0 := by rw [← r1 _ (by omega)]; exact q
      have e4 : ∀ x y : Int32, pm_up (pm_up μ (b + 4) a x) (b + 4) c y (b + 4) = upd (upd (μ (b + 4)) a x) c y := fun x y => by rw [up_r, up_r]
      have ho : ∀ (x y : Int32) (j : Nat), j ≠ b + 4 → pm_up (pm_up μ (b + 4) a x) (b + 4) c y j = μ j := fun x y j g => by rw [up_o g, up_o g]
      unfold repM
      rw [e4, ho _ _ (b + 1) (by omega), ho _ _ (b + 2) (by omega), ho _ _ (b + 3) (by omega), ho _ _ b (by omega), r4 a ha, r4 c hc]
      unfold dstep
      rw [hd, hm, if_pos ⟨hac, hq⟩]
      refine ⟨fun i hi => ?_, r2, fun f hf => ?_, fun f hf => ?_, ?_⟩
      · rw [upd_n (by omega), upd_n (by omega)]; exact r1 i hi
      · rw [upd_n (by omega), upd_n (by omega)]; exact r3 f hf
      · by_cases q1 : f = c
        · subst q1; rw [upd_s, upd_s]
        · rw [upd_n q1, upd_n (show 56 + f ≠ 56 + c by omega)]
          by_cases q2 : f = a
          · subst q2; rw [upd_s, upd_s]
          · rw [upd_n q2, upd_n (by omega)]; exact r4 f hf
      · rw [upd_n (by omega), upd_n (by omega)]; exact r5
    · rw [up_o (by omega), up_o (by omega)]
  · rw [if_neg q, nI_1]
    refine ⟨μ, rfl, ?_, frM.rf, rfl⟩
    unfold dstep
    rw [if_neg (fun h => q (by rw [r1 _ (by omega)]; exact h.2))]
    exact hr
theorem dfold_skip {B : Nat → Int32} {a : Nat} (ha : a < 7) : ∀ k, k ≤ a + 1 → dfold B (7 * a + k) = dfold B (7 * a)
  | 0, _ => rfl
  | k + 1, h => by
    show dstep (dfold B (7 * a + k)) (7 * a + k) = _
    rw [dstep_no (by omega), dfold_skip ha k (by omega)]
theorem day2 {μ0 : pm_M} {a : Nat} {v2 : Int32 × pm_M} (hv : v2.1 = nI a) (ha : a < 7) {E : pm_M → Option pm_M} (Q : Option pm_M → Prop) (hE : ∀ ν, repM ν b (dfold B (7 * (a + 1))) R → frM b μ0 ν → ν b = μ0 b → Q (E ν)) :
    ∀ μ, repM μ b (dfold B (7 * a)) R → frM b μ0 μ → μ b = μ0 b → Q (pm_it (f_X2_passDay_b12 b v2) 5000 (nI (a + 1), μ) E) := by
  intro μ h1 h2 h3
  refine it_wp (fun k s => ∃ c ν, s = (nI c, ν) ∧ c + k = 8 ∧ a + 1 ≤ c ∧ c ≤ 7 ∧ repM ν b (dfold B (7 * a + c)) R ∧ frM b μ0 ν ∧ ν b = μ0 b) Q (fun s h => by obtain ⟨c, ν, -, h1, h2, h3, -⟩ := h; omega) (fun k s h T hT => ?_) 5000 (8 - (a + 1)) _ (by omega) ⟨a + 1, μ, rfl, by omega, by omega, by omega, by rw [dfold_skip ha (a + 1) (by omega)]; exact h1, h2, h3⟩
  obtain ⟨c, ν, rfl, e1, e2, e3, e4, e5, e6⟩ := h
  by_cases q : c = 7
  · subst q
    unfold f_X2_passDay_b12
    rw [if_pos (show (7 : Int32) ≤ nI 7 by decide)]
    exact hE ν (by rw [show 7 * (a + 1) = 7 * a + 7 by omega]; exact e4) e5 e6
  · obtain ⟨ξ, x1, x2, x3, x4⟩ := day1 (b := b) (R := R) hv ha (show c < 7 by omega) (by omega) e4 T E
    rw [x1]
    exact hT _ ⟨c + 1, ξ, rfl, by omega, by omega, by omega, x2, e5.tr x3, x4.trans e6⟩
theorem perf4 {μ : pm_M} {x y : Int32} (hr : repM μ b B R) : ∃ ν, f_X2_perform b (nI 4) x y μ = some ν ∧ repM ν b (doA B 4 0 0) R ∧ frM b μ ν := by
  have key : ∃ ν, f_X2_passDay b μ = some ν ∧ repM ν b (doA B 4 0 0) R ∧ frM b μ ν := by
    unfold f_X2_passDay
    refine it_wp (fun k s => ∃ a ν, s = (nI a, ν) ∧ a + k = 8 ∧ a ≤ 7 ∧ repM ν b (dfold B (7 * a)) R ∧ frM b μ ν ∧ ν b = μ b) (fun o => ∃ ν, o = some ν ∧ repM ν b (doA B 4 0 0) R ∧ frM b μ ν) (fun s h => by obtain ⟨a, ν, -, h1, h2, -⟩ := h; omega) (fun k s h T hT => ?_) 5000 8 _ (by omega) ⟨0, μ, rfl, by omega, by omega, hr, frM.rf, rfl⟩
    obtain ⟨a, ν, rfl, e1, e2, e3, e4, e5⟩ := h
    by_cases q : a = 7
    · subst q
      unfold f_X2_passDay_b2
      rw [if_pos (show (7 : Int32) ≤ nI 7 by decide)]
      refine ⟨pm_up ν b 4 (ν b 4 + 1), rfl, ?_, e4.up (by omega)⟩
      obtain ⟨r1, r2, r3, r4, r5⟩ := e3
      obtain ⟨-, -, -, -, s5⟩ := hr
      rw [doA_4]
      unfold dayA repM
      rw [up_r, upd_s, up_o (by omega), up_o (by omega), up_o (by omega), up_o (by omega)]
      refine ⟨fun i hi => ?_, r2, fun f hf => ?_, fun f hf => ?_, ?_⟩
      · rw [upd_n (by omega)]; exact r1 i hi
      · rw [upd_n (by omega)]; exact r3 f hf
      · rw [upd_n (by omega)]; exact r4 f hf
      · rw [upd_s]
        show ν b 4 + 1 = _
        rw [e5, s5]
    · unfold f_X2_passDay_b2
      rw [if_neg (show ¬ (7 : Int32) ≤ nI a from nI_ge (b := 7) (by omega) (by omega)), let_eq]
      dsimp only
      rw [show nI a + (1 : Int32) = nI (a + 1) from nI_1 a]
      refine day2 (μ0 := μ) (v2 := (nI a, ν)) rfl (show a < 7 by omega) (fun o => ∃ ν, o = some ν ∧ repM ν b (doA B 4 0 0) R ∧ frM b μ ν) (fun ξ g1 g2 g3 => ?_) ν e3 e4 e5
      exact hT (nI (a + 1), ξ) ⟨a + 1, ξ, rfl, by omega, by omega, g1, g2, g3⟩
  obtain ⟨ν, k1, k2, k3⟩ := key
  refine ⟨ν, ?_, k2, k3⟩
  unfold f_X2_perform
  rw [sw1 (by decide), sw1 (by decide), sw1 (by decide), sw1 (by decide), swn, k1, b_some]
end DAY
