/-! THE ACTS, on a book B (as the model has it) and roads R -/
def plA (B : Nat → Int32) (a : Nat) : Nat := (B (49 + a)).toNatClampNeg
def whyA (B R : Nat → Int32) (k a n : Nat) : Nat :=
  if k = 0 then (if plA B a = n then 1 else if R (7 * plA B a + n) = 0 then 2 else 0)
  else if k = 1 then (if plA B a = a then 3 else if B (7 * a + plA B a) < 0 then 4 else if B (7 * a + plA B a) = 9 then 5 else 0)
  else if k = 2 then (if plA B a = a then (if B (7 * a + n) < 0 then 4 else if B (7 * a + n) = 0 then 5 else 0) else 3)
  else if k = 3 then (if cpair B 0 9 = 0 then 6 else 0)
  else (if B 63 = 99 then 7 else 0)
def blow1 (n : Nat) (x : Int32) : Int32 := if x < 0 then x else if 0 < x - nI n then x - nI n else 0
def blowA (B : Nat → Int32) (n : Nat) : Nat → Int32 := pre 49 (fun i => blow1 n (B i)) B
def cmpA (x y : Int32) : Int32 := if y ≤ x then (if x = y then 0 else 1) else -1
def dstep (B : Nat → Int32) (i : Nat) : Nat → Int32 := if i / 7 < i % 7 ∧ B i = 0 then upd (upd B (56 + i / 7) (B (56 + i / 7) - cmpA (B (56 + i / 7)) (B (56 + i % 7)))) (56 + i % 7) (B (56 + i % 7) + cmpA (B (56 + i / 7)) (B (56 + i % 7))) else B
def dfold (B : Nat → Int32) : Nat → Nat → Int32
  | 0 => B
  | n + 1 => dstep (dfold B n) n
def dayA (B : Nat → Int32) : Nat → Int32 := upd (dfold B 49) 63 (B 63 + 1)
def mend1 (x : Int32) : Int32 := if x + 3 < 9 then x + 3 else 9
def doA (B : Nat → Int32) (k a n : Nat) : Nat → Int32 :=
  if k = 0 then upd B (49 + a) (nI n)
  else if k = 1 then lay B a (plA B a) (mend1 (B (7 * a + plA B a)))
  else if k = 2 then lay B a n (B (7 * a + n) / 2)
  else if k = 3 then blowA B n
  else dayA B
theorem dstep_lo {B : Nat → Int32} {i j : Nat} (hi : i < 49) (hj : j < 56 ∨ 63 ≤ j) : dstep B i j = B j := by
  unfold dstep
  split
  · rw [upd_n (by omega), upd_n (by omega)]
  · rfl
theorem dfold_lo {B : Nat → Int32} {j : Nat} (hj : j < 56 ∨ 63 ≤ j) : ∀ n, n ≤ 49 → dfold B n j = B j
  | 0, _ => rfl
  | n + 1, h => by
    show dstep (dfold B n) n j = B j
    rw [dstep_lo (by omega) hj, dfold_lo hj n (by omega)]
theorem dstep_no {B : Nat → Int32} {i : Nat} (h : i % 7 ≤ i / 7) : dstep B i = B := by
  unfold dstep
  rw [if_neg (by omega)]
/-- cows stay within their bounds -/
def cowsOK (B : Nat → Int32) : Prop := ∀ f, f < 7 → ∃ c : Nat, c ≤ 99 ∧ B (56 + f) = nI c
theorem cmp_cases {x y : Nat} (hx : x ≤ 99) (hy : y ≤ 99) : (x = y ∧ cmpA (nI x) (nI y) = 0) ∨ (y < x ∧ cmpA (nI x) (nI y) = 1) ∨ (x < y ∧ cmpA (nI x) (nI y) = -1) := by
  unfold cmpA
  rcases Nat.lt_trichotomy x y with h | h | h
  · exact Or.inr (Or.inr ⟨h, by rw [if_neg (nI_ge h (by omega))]⟩)
  · exact Or.inl ⟨h, by rw [if_pos (nI_le (by omega) (by omega)), if_pos (by rw [h])]⟩
  · exact Or.inr (Or.inl ⟨h, by rw [if_pos (nI_le (by omega) (by omega)), if_neg (nI_ne (by omega) (by omega) (by omega))]⟩)
theorem sub1 {x : Nat} (h : 0 < x) : nI x - 1 = nI (x - 1) := pk_sub (a := x) (b := 1) h
theorem subm (x : Nat) : nI x - (-1) = nI (x + 1) := by
  have : nI x - (-1) = nI x + 1 := by rw [Int32.sub_eq_add_neg]; rfl
  rw [this, nI_1]
theorem addm {x : Nat} (h : 0 < x) : nI x + (-1) = nI (x - 1) := sb_m1 h
theorem i_sub0 (x : Int32) : x - 0 = x := by rw [Int32.sub_eq_add_neg]; show x + -0 = x; rw [show (-0 : Int32) = 0 from rfl, Int32.add_zero]
theorem dstep_cows {B : Nat → Int32} {i : Nat} (hi : i < 49) (h : cowsOK B) : cowsOK (dstep B i) := by
  intro f hf
  unfold dstep
  split
  · rename_i hc
    obtain ⟨x, hx, ex⟩ := h (i / 7) (by omega)
    obtain ⟨y, hy, ey⟩ := h (i % 7) (by omega)
    rw [ex, ey]
    by_cases q1 : f = i % 7
    · subst q1
      rw [upd_s]
      rcases cmp_cases hx hy with ⟨g, e⟩ | ⟨g, e⟩ | ⟨g, e⟩
      · rw [e, Int32.add_zero]; exact ⟨y, hy, rfl⟩
      · rw [e, nI_1]; exact ⟨y + 1, by omega, rfl⟩
      · rw [e, addm (by omega)]; exact ⟨y - 1, by omega, rfl⟩
    · rw [upd_n (by omega)]
      by_cases q2 : f = i / 7
      · subst q2
        rw [upd_s]
        rcases cmp_cases hx hy with ⟨g, e⟩ | ⟨g, e⟩ | ⟨g, e⟩
        · rw [e, i_sub0]; exact ⟨x, hx, rfl⟩
        · rw [e, sub1 (by omega)]; exact ⟨x - 1, by omega, rfl⟩
        · rw [e, subm]; exact ⟨x + 1, by omega, rfl⟩
      · rw [upd_n (by omega)]
        exact h f hf
  · exact h f hf
theorem dfold_cows {B : Nat → Int32} (h : cowsOK B) : ∀ n, n ≤ 49 → cowsOK (dfold B n)
  | 0, _ => h
  | n + 1, hn => dstep_cows (by omega) (dfold_cows h n (by omega))
/-- what the acts keep -/
theorem pl_ok {B R : Nat → Int32} {a : Nat} (h : okB B R) (ha : a < 7) : plA B a < 7 ∧ B (49 + a) = nI (plA B a) := by
  obtain ⟨p, hp, e⟩ := h.2.2.2.1 a ha
  unfold plA
  rw [e, nI_clamp (by omega)]
  exact ⟨hp, rfl⟩
theorem okS_cases {x : Int32} (h : okS x) (h0 : ¬ x < 0) : ∃ k : Nat, k ≤ 9 ∧ x = nI k := by
  rcases h with rfl | h
  · exact absurd neg6 h0
  · exact h
theorem okS_blow {x : Int32} {n : Nat} (h : okS x) (hn : n ≤ 9) : okS (blow1 n x) := by
  unfold blow1
  by_cases h0 : x < 0
  · rw [if_pos h0]; exact h
  · rw [if_neg h0]
    obtain ⟨k, hk, rfl⟩ := okS_cases h h0
    by_cases h1 : 0 < nI k - nI n
    · rw [if_pos h1]
      rcases Nat.lt_or_ge k n with q | q
      · exact absurd (pk_sneg (by omega) q) (Int32.not_lt.mpr (Int32.le_of_lt h1))
      · rw [pk_sub q]; exact Or.inr ⟨k - n, by omega, rfl⟩
    · rw [if_neg h1]; exact Or.inr ⟨0, by omega, rfl⟩
theorem okS_mend {k : Nat} (hk : k ≤ 9) : okS (mend1 (nI k)) := by
  unfold mend1
  rw [show nI k + 3 = nI (k + 3) from nI_add k 3]
  by_cases h : nI (k + 3) < 9
  · rw [if_pos h]
    refine Or.inr ⟨k + 3, ?_, rfl⟩
    have := (nI_ltI (a := k + 3) (b := 9) (by omega) (by omega)).mp h
    omega
  · rw [if_neg h]; exact Or.inr ⟨9, by omega, rfl⟩
theorem half_eq {k : Nat} (hk : k ≤ 9) : nI k / 2 = nI (k / 2) := pk_div (a := k) (d := 2) (by omega) (by omega) (by omega)
theorem day_ok {B R : Nat → Int32} (h : okB B R) (h63 : ¬ B 63 = 99) : okB (dayA B) R := by
  obtain ⟨h1, h2, h3, h4, h5, ⟨d, hd, ed⟩, h7⟩ := h
  have lo : ∀ j, j < 56 → dayA B j = B j := fun j hj => by unfold dayA; rw [upd_n (by omega), dfold_lo (by omega) 49 (by omega)]
  have hd2 : d ≠ 99 := fun q => h63 (by rw [ed, q]; rfl)
  refine ⟨fun a c ha hc => ?_, fun a ha => ?_, fun i hi => ?_, fun f hf => ?_, fun f hf => ?_, ⟨d + 1, by omega, ?_⟩, h7⟩
  · rw [lo _ (by omega), lo _ (by omega)]; exact h1 a c ha hc
  · rw [lo _ (by omega)]; exact h2 a ha
  · rw [lo _ (by omega)]; exact h3 i hi
  · rw [lo _ (by omega)]; exact h4 f hf
  · unfold dayA
    rw [upd_n (by omega)]
    exact dfold_cows (B := B) h5 49 (by omega) f hf
  · unfold dayA
    rw [upd_s, ed, nI_1]
theorem do_ok {B R : Nat → Int32} {k a n : Nat} (h : okB B R) (hw : whyA B R k a n = 0) (ha : k < 3 → a < 7) (hn : k = 0 ∨ k = 2 → n < 7) (hn3 : k = 3 → n ≤ 9) : okB (doA B k a n) R := by
  unfold whyA at hw
  unfold doA
  by_cases k0 : k = 0
  · subst k0
    rw [if_pos rfl]
    have ha := ha (by omega)
    obtain ⟨h1, h2, h3, h4, h5, h6, h7⟩ := h
    have lo : ∀ i, i ≠ 49 + a → upd B (49 + a) (nI n) i = B i := fun i hi => upd_n hi
    refine ⟨fun x y hx hy => ?_, fun x hx => ?_, fun i hi => ?_, fun f hf => ?_, fun f hf => ?_, ?_, h7⟩
    · rw [lo _ (by omega), lo _ (by omega)]; exact h1 x y hx hy
    · rw [lo _ (by omega)]; exact h2 x hx
    · rw [lo _ (by omega)]; exact h3 i hi
    · by_cases q : f = a
      · subst q; rw [upd_s]; exact ⟨n, hn (Or.inl rfl), rfl⟩
      · rw [lo _ (by omega)]; exact h4 f hf
    · rw [lo _ (by omega)]; exact h5 f hf
    · rw [lo _ (by omega)]; exact h6
  rw [if_neg k0] at hw ⊢
  by_cases k1 : k = 1
  · subst k1
    rw [if_pos rfl] at hw ⊢
    have ha := ha (by omega)
    obtain ⟨hp, -⟩ := pl_ok h ha
    by_cases q1 : plA B a = a
    · rw [if_pos q1] at hw; cases hw
    · rw [if_neg q1] at hw
      by_cases q2 : B (7 * a + plA B a) < 0
      · rw [if_pos q2] at hw; cases hw
      · obtain ⟨j, hj, e⟩ := okS_cases (h.2.2.1 (7 * a + plA B a) (by omega)) q2
        rw [e]
        exact lay_ok ha hp (fun q => q1 q.symm) (okS_mend hj) h
  rw [if_neg k1] at hw ⊢
  by_cases k2 : k = 2
  · subst k2
    rw [if_pos rfl] at hw ⊢
    have ha := ha (by omega)
    have hn := hn (Or.inr rfl)
    by_cases q1 : plA B a = a
    · rw [if_pos q1] at hw
      by_cases q2 : B (7 * a + n) < 0
      · rw [if_pos q2] at hw; cases hw
      · obtain ⟨j, hj, e⟩ := okS_cases (h.2.2.1 (7 * a + n) (by omega)) q2
        have hne : a ≠ n := by
          rintro rfl
          rw [show 7 * a + a = 8 * a by omega, h.2.1 a ha] at q2
          exact q2 neg6
        rw [e, half_eq hj]
        exact lay_ok ha hn hne (Or.inr ⟨j / 2, by omega, rfl⟩) h
    · rw [if_neg q1] at hw; cases hw
  rw [if_neg k2] at hw ⊢
  by_cases k3 : k = 3
  · subst k3
    rw [if_pos rfl]
    have hn := hn3 rfl
    obtain ⟨h1, h2, h3, h4, h5, h6, h7⟩ := h
    unfold blowA
    refine ⟨fun x y hx hy => ?_, fun x hx => ?_, fun i hi => ?_, fun f hf => ?_, fun f hf => ?_, ?_, h7⟩
    · rw [pre_lt (by omega), pre_lt (by omega), h1 x y hx hy]
    · rw [pre_lt (by omega), h2 x hx]; unfold blow1; rw [if_pos neg6]
    · rw [pre_lt hi]; exact okS_blow (h3 i hi) hn
    · rw [pre_ge (by omega)]; exact h4 f hf
    · rw [pre_ge (by omega)]; exact h5 f hf
    · rw [pre_ge (by omega)]; exact h6
  rw [if_neg k3] at hw ⊢
  by_cases q : B 63 = 99
  · rw [if_pos q] at hw; cases hw
  · exact day_ok h q
