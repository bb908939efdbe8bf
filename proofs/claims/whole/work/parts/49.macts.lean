/-! the model's acts on its book 'now' (52) -/
def repN (μ : pm_M) (B R : Nat → Int32) : Prop := (∀ i, i < 64 → μ 52 i = B i) ∧ ∀ i, i < 49 → μ 53 i = R i
def frN (μ ν : pm_M) : Prop := (∀ j, j ≠ 52 → j ≠ 50 → ν j = μ j) ∧ ∀ k, k ≠ 8 → ν 50 k = μ 50 k
theorem frN.rf {μ : pm_M} : frN μ μ := ⟨fun _ _ _ => rfl, fun _ _ => rfl⟩
theorem frN.up {μ ν : pm_M} {i : Nat} {v : Int32} (h : frN μ ν) : frN μ (pm_up ν 52 i v) := ⟨fun j h1 h2 => by rw [up_o h1]; exact h.1 j h1 h2, fun k hk => by rw [up_o (by decide)]; exact h.2 k hk⟩
def milA (B R : Nat → Int32) (k a n : Nat) : Int32 := if k = 0 then R (7 * plA B a + n) else 0
/-- what the model's act says and does -/
def mact (μ : pm_M) (B R : Nat → Int32) (k a n : Nat) (o : Option (Int32 × pm_M)) : Prop := ∃ ν, o = some (nI (whyA B R k a n), ν) ∧ frN μ ν ∧ (whyA B R k a n = 0 → repN ν (doA B k a n) R ∧ ν 50 8 = μ 50 8 + milA B R k a n) ∧ (¬ whyA B R k a n = 0 → ν = μ)
section MACT
variable {μ : pm_M} {B R : Nat → Int32}
theorem go_eq {a n : Nat} (hr : repN μ B R) (hok : okB B R) (ha : a < 7) (hn : n < 7) : mact μ B R 0 a n (f_X10_go (nI a) (nI n) μ) := by
  obtain ⟨r1, r2⟩ := hr
  obtain ⟨hp, ep⟩ := pl_ok hok ha
  unfold mact f_X10_go
  rw [i49, ck_in (by omega) (by omega), nI_clamp (by omega), let_eq, r1 _ (by omega), ep, whyA_0]
  by_cases q : plA B a = n
  · rw [if_pos q, if_pos (by rw [q])]
    exact ⟨μ, rfl, frN.rf, fun h => (by cases h), fun _ => rfl⟩
  · rw [if_neg q, if_neg (nI_ne q (by omega) (by omega)), ix7, ck_in (by omega) (by omega), nI_clamp (by omega), r2 _ (by omega)]
    by_cases q2 : R (7 * plA B a + n) = 0
    · rw [if_pos q2, if_pos q2]
      exact ⟨μ, rfl, frN.rf, fun h => (by cases h), fun _ => rfl⟩
    · rw [if_neg q2, if_neg q2, ck_in (by omega) (by omega), let_eq, ck_in (by omega) (by omega), let_eq]
      refine ⟨_, rfl, ⟨fun j h1 h2 => by rw [up_o h1, up_o h2], fun k hk => by rw [up_o (by decide), up_r, upd_n hk]⟩, fun _ => ⟨⟨fun i hi => ?_, fun i hi => ?_⟩, ?_⟩, fun h => absurd rfl h⟩
      · rw [up_r, up_o (by decide), doA_0]
        by_cases g : i = 49 + a
        · subst g; rw [upd_s, upd_s]
        · rw [upd_n g, upd_n g]; exact r1 i hi
      · rw [up_o (by decide), up_o (by decide)]; exact r2 i hi
      · rw [up_o (by decide), up_r, upd_s]; rfl
theorem mlay_eq {a c : Nat} {v : Int32} (ha : a < 7) (hc : c < 7) : f_X10_lay (nI a) (nI c) v μ = some (pm_up (pm_up μ 52 (7 * a + c) v) 52 (7 * c + a) v) := by
  unfold f_X10_lay
  rw [ix7, ix7, ck_in (by omega) (by omega), let_eq, ck_in (by omega) (by omega), let_eq, nI_clamp (by omega), nI_clamp (by omega)]
theorem mlay_rep {a c : Nat} {v : Int32} (hr : repN μ B R) : repN (pm_up (pm_up μ 52 (7 * a + c) v) 52 (7 * c + a) v) (lay B a c v) R := by
  refine ⟨fun i hi => ?_, fun i hi => ?_⟩
  · rw [up_r, up_r]
    show upd (upd (μ 52) (7 * a + c) v) (7 * c + a) v i = upd (upd B (7 * a + c) v) (7 * c + a) v i
    unfold upd
    rw [hr.1 i hi]
  · rw [up_o (by decide), up_o (by decide)]; exact hr.2 i hi
theorem mend_eq {a : Nat} (hr : repN μ B R) (hok : okB B R) (ha : a < 7) : mact μ B R 1 a 0 (f_X10_mend (nI a) μ) := by
  obtain ⟨r1, r2⟩ := id hr
  obtain ⟨hp, ep⟩ := pl_ok hok ha
  unfold mact f_X10_mend
  rw [i49, ck_in (by omega) (by omega), nI_clamp (by omega), let_eq, r1 _ (by omega), ep, ix7, ck_in (by omega) (by omega), nI_clamp (by omega), let_eq, r1 _ (by omega), whyA_1]
  by_cases q : plA B a = a
  · rw [if_pos q, if_pos (by rw [q])]
    exact ⟨μ, rfl, frN.rf, fun h => (by cases h), fun _ => rfl⟩
  rw [if_neg q, if_neg (nI_ne q (by omega) (by omega))]
  by_cases q2 : B (7 * a + plA B a) < 0
  · rw [if_pos q2, if_neg (Int32.not_le.mpr q2)]
    exact ⟨μ, rfl, frN.rf, fun h => (by cases h), fun _ => rfl⟩
  rw [if_neg q2, if_pos (Int32.not_lt.mp q2)]
  by_cases q3 : B (7 * a + plA B a) = 9
  · rw [if_pos q3, if_pos q3]
    exact ⟨μ, rfl, frN.rf, fun h => (by cases h), fun _ => rfl⟩
  rw [if_neg q3, if_neg q3, jn_if, mlay_eq ha hp, b_some]
  have hv : (if B (7 * a + plA B a) ≤ 6 then B (7 * a + plA B a) + 3 else 9) = mend1 (B (7 * a + plA B a)) := by
    obtain ⟨k, hk, e⟩ := okS_cases (hok.2.2.1 _ (show 7 * a + plA B a < 49 by omega)) q2
    rw [e]
    unfold mend1
    rw [show nI k + 3 = nI (k + 3) from nI_add k 3]
    rcases Nat.lt_or_ge k 6 with g | g
    · rw [if_pos (show nI k ≤ (6 : Int32) from nI_le (b := 6) (by omega) (by omega)), if_pos (show nI (k + 3) < (9 : Int32) from nI_lt (b := 9) (by omega) (by omega))]
    · rw [if_neg (show ¬ nI (k + 3) < (9 : Int32) from nI_nlt (b := 9) (by omega) (by omega))]
      rcases Nat.eq_or_lt_of_le g with g2 | g2
      · rw [← g2]; rfl
      · rw [if_neg (show ¬ nI k ≤ (6 : Int32) from nI_ge (a := 6) (by omega) (by omega))]
  rw [hv]
  refine ⟨_, rfl, (frN.rf.up).up, fun _ => ⟨mlay_rep hr, ?_⟩, fun h => absurd rfl h⟩
  rw [up_o (by decide), up_o (by decide)]
  show μ 50 8 = μ 50 8 + 0
  rw [Int32.add_zero]
theorem split_eq {a n : Nat} (hr : repN μ B R) (hok : okB B R) (ha : a < 7) (hn : n < 7) : mact μ B R 2 a n (f_X10_split (nI a) (nI n) μ) := by
  obtain ⟨r1, r2⟩ := id hr
  obtain ⟨hp, ep⟩ := pl_ok hok ha
  unfold mact f_X10_split
  rw [ix7, ck_in (by omega) (by omega), nI_clamp (by omega), let_eq, r1 (7 * a + n) (by omega), i49, ck_in (by omega) (by omega), nI_clamp (by omega), r1 (49 + a) (by omega), ep, whyA_2]
  by_cases q : ¬ plA B a = a
  · rw [if_neg q, if_neg (nI_ne q (by omega) (by omega))]
    exact ⟨μ, rfl, frN.rf, fun h => (by cases h), fun _ => rfl⟩
  have q : plA B a = a := Decidable.not_not.mp q
  rw [if_pos q, if_pos (by rw [q])]
  by_cases q2 : B (7 * a + n) < 0
  · rw [if_pos q2, if_neg (Int32.not_le.mpr q2)]
    exact ⟨μ, rfl, frN.rf, fun h => (by cases h), fun _ => rfl⟩
  rw [if_neg q2, if_pos (Int32.not_lt.mp q2)]
  by_cases q3 : B (7 * a + n) = 0
  · rw [if_pos q3, if_pos q3]
    exact ⟨μ, rfl, frN.rf, fun h => (by cases h), fun _ => rfl⟩
  rw [if_neg q3, if_neg q3, mlay_eq ha hn, b_some]
  refine ⟨_, rfl, (frN.rf.up).up, fun _ => ⟨mlay_rep hr, ?_⟩, fun h => absurd rfl h⟩
  rw [up_o (by decide), up_o (by decide)]
  show μ 50 8 = μ 50 8 + 0
  rw [Int32.add_zero]
theorem blow_eq {n : Nat} (hr : repN μ B R) (hok : okB B R) (hn : n ≤ 9) : mact μ B R 3 0 n (f_X10_blow (nI n) μ) := by
  obtain ⟨r1, r2⟩ := id hr
  unfold mact f_X10_blow
  rw [po_rel hok (fun i hi => r1 i (by omega)), b_some, whyA_3]
  have := cpair_le B 0 9
  by_cases q : cpair B 0 9 = 0
  · rw [if_pos q, if_pos (by rw [q]; rfl)]
    exact ⟨μ, rfl, frN.rf, fun h => (by cases h), fun _ => rfl⟩
  rw [if_neg q, if_neg (show ¬ nI (cpair B 0 9) = 0 from nI_ne (c := 0) q (by omega) (by omega))]
  refine ⟨pm_row μ 52 (pre 49 (fun i => blow1 n (B i)) (μ 52)), ?_, ⟨fun j h1 h2 => row_o h1, fun k hk => by rw [row_o (by decide)]⟩, fun _ => ⟨⟨fun i hi => ?_, fun i hi => ?_⟩, ?_⟩, fun h => absurd rfl h⟩
  · refine it_for (fun k => (nI k, pm_row μ 52 (pre k (fun i => blow1 n (B i)) (μ 52)))) 49 (fun k hk T => ?_) (fun T => ?_) 49 0 5000 (by omega) (by omega) |> fun h => (by rw [pre_0, row_id] at h; exact h)
    · show (if (49 : Int32) ≤ nI k then _ else _) = _
      rw [if_neg (show ¬ (49 : Int32) ≤ nI k from nI_ge (b := 49) hk (by omega))]
      dsimp only
      have ec : pm_row μ 52 (pre k (fun i => blow1 n (B i)) (μ 52)) 52 k = B k := by rw [row_r, pre_ge (Nat.le_refl k)]; exact r1 k (by omega)
      rw [ck_in (by omega) (by omega), nI_clamp (by omega), jn_eq]
      simp only [ec]
      have fin : ∀ v : Int32, v = blow1 n (B k) → pm_up (pm_row μ 52 (pre k (fun i => blow1 n (B i)) (μ 52))) 52 k v = pm_row μ 52 (pre (k + 1) (fun i => blow1 n (B i)) (μ 52)) := by
        intro v hv
        rw [up_row, hv, pre_s k (fun i => blow1 n (B i))]
      by_cases q : B k < 0
      · rw [if_neg (Int32.not_le.mpr q), ck_in (by omega) (by omega), ck_in (by omega) (by omega), let_eq, nI_1, fin _ (by unfold blow1; rw [if_pos q])]
      · obtain ⟨x, hx, e⟩ := okS_cases (hok.2.2.1 k hk) q
        rw [if_pos (Int32.not_lt.mp q), ck_in (by omega) (by omega)]
        by_cases g : B k ≤ nI n
        · rw [if_pos g, ck_in (by omega) (by omega), let_eq, nI_1, fin _ ?_]
          rw [e] at g ⊢
          have hle := (nI_leI (by omega) (by omega)).mp g
          unfold blow1
          rw [if_neg (nI_pos (by omega)), if_neg]
          intro q3
          rcases Nat.eq_or_lt_of_le hle with g | g
          · rw [g, pk_sub (Nat.le_refl n), Nat.sub_self] at q3; exact absurd q3 (by decide)
          · exact absurd (pk_sneg (by omega) g) (Int32.not_lt.mpr (Int32.le_of_lt q3))
        · rw [if_neg g, ck_in (by omega) (by omega), ck_in (by omega) (by omega), let_eq, nI_1, fin _ ?_]
          rw [e] at g ⊢
          have hlt : n < x := by
            rcases Nat.lt_or_ge n x with y | y
            · exact y
            · exact absurd (nI_le y (by omega)) g
          unfold blow1
          rw [if_neg (nI_pos (by omega)), if_pos]
          rw [pk_sub (by omega)]
          exact (pos_iff (k := x - n) (by omega)).mpr (by omega)
    · rfl
  · rw [row_r, doA_3]
    unfold blowA
    rcases Nat.lt_or_ge i 49 with g | g
    · rw [pre_lt g, pre_lt g]
    · rw [pre_ge g, pre_ge g]; exact r1 i hi
  · rw [row_o (by decide)]; exact r2 i hi
  · rw [row_o (by decide)]
    show μ 50 8 = μ 50 8 + 0
    rw [Int32.add_zero]
theorem off_cmp {x y : Nat} (hx : x ≤ 99) (hy : y ≤ 99) : (if nI x - nI y ≤ 0 then (if 0 ≤ nI x - nI y then (0 : Int32) else -1) else 1) = cmpA (nI x) (nI y) := by
  unfold cmpA
  rcases Nat.lt_trichotomy x y with h | h | h
  · have h1 := pk_sneg (a := x) (b := y) (by omega) h
    rw [if_pos (Int32.le_of_lt h1), if_neg (Int32.not_le.mpr h1), if_neg (nI_ge h (by omega))]
  · subst h
    rw [pk_sub (Nat.le_refl x), Nat.sub_self, if_pos (by decide), if_pos (by decide), if_pos (nI_le (Nat.le_refl x) (by omega)), if_pos rfl]
  · rw [pk_sub (by omega), if_neg (show ¬ nI (x - y) ≤ 0 from nI_nle (by omega) (by omega)), if_pos (nI_le (by omega) (by omega)), if_neg (nI_ne (by omega) (by omega) (by omega))]
theorem dfold_63 {v : Int32} : ∀ n, n ≤ 49 → ∀ i, dfold (upd B 63 v) n i = upd (dfold B n) 63 v i
  | 0, _, i => rfl
  | n + 1, h, i => by
    have ih := dfold_63 (v := v) n (by omega)
    show dstep (dfold (upd B 63 v) n) n i = upd (dstep (dfold B n) n) 63 v i
    have e1 : dfold (upd B 63 v) n = upd (dfold B n) 63 v := funext ih
    rw [e1]
    unfold dstep
    rw [upd_n (show n ≠ 63 by omega), upd_n (show 56 + n / 7 ≠ 63 by omega), upd_n (show 56 + n % 7 ≠ 63 by omega)]
    split
    · unfold upd
      by_cases g : i = 63
      · subst g
        rw [if_neg (by omega), if_neg (by omega), if_pos rfl, if_pos rfl]
      · rw [if_neg g, if_neg g]
    · rfl
theorem day_eq (hr : repN μ B R) (hok : okB B R) : mact μ B R 4 0 0 (f_X10_endDay μ) := by
  obtain ⟨r1, r2⟩ := id hr
  obtain ⟨d, hd, ed⟩ := hok.2.2.2.2.2.1
  unfold mact f_X10_endDay
  rw [show (63 : Int32) = nI 63 from rfl, ck_in (by omega) (by omega), nI_clamp (by omega), r1 63 (by omega), whyA_4]
  by_cases q : B 63 = 99
  · rw [if_pos q, if_pos q]
    exact ⟨μ, rfl, frN.rf, fun h => (by cases h), fun _ => rfl⟩
  rw [if_neg q, if_neg q, ck_in (by omega) (by omega), ck_in (by omega) (by omega), let_eq]
  generalize hB1 : upd B 63 (B 63 + 1) = B1
  have hc1 : cowsOK B1 := fun f hf => by rw [← hB1, upd_n (by omega)]; exact hok.2.2.2.2.1 f hf
  have h0 : repN (pm_up μ 52 63 (B 63 + 1)) (dfold B1 0) R := by
    refine ⟨fun i hi => ?_, fun i hi => ?_⟩
    · show pm_up μ 52 63 (B 63 + 1) 52 i = B1 i
      rw [up_r, ← hB1]
      unfold upd
      rw [r1 i hi]
    · rw [up_o (by decide)]; exact r2 i hi
  refine it_wp (fun k s => ∃ i ν, s = (nI i, ν) ∧ i + k = 50 ∧ i ≤ 49 ∧ repN ν (dfold B1 i) R ∧ (∀ j, j ≠ 52 → ν j = μ j)) (fun o => ∃ ν, o = some (nI 0, ν) ∧ frN μ ν ∧ ((0 : Nat) = 0 → repN ν (doA B 4 0 0) R ∧ ν 50 8 = μ 50 8 + milA B R 4 0 0) ∧ (¬ (0 : Nat) = 0 → ν = μ)) (fun s h => by obtain ⟨i, ν, -, h1, h2, -⟩ := h; omega) (fun k s h T hT => ?_) 5000 50 _ (by omega) ⟨0, _, rfl, by omega, by omega, h0, fun j hj => up_o hj⟩
  obtain ⟨i, ν, rfl, e1, e2, ⟨e3, e4⟩, e5⟩ := h
  unfold f_X10_endDay_b28
  by_cases g : i = 49
  · subst g
    rw [if_pos (show (49 : Int32) ≤ nI 49 by decide)]
    refine ⟨ν, rfl, ⟨fun j h1 _ => e5 j h1, fun k _ => by rw [e5 50 (by decide)]⟩, fun _ => ⟨⟨fun i hi => ?_, e4⟩, ?_⟩, fun h => absurd rfl h⟩
    · rw [e3 i hi, doA_4, ← hB1, dfold_63 49 (by omega)]; rfl
    · rw [e5 50 (by decide)]
      show μ 50 8 = μ 50 8 + 0
      rw [Int32.add_zero]
  have hi : i < 49 := by omega
  have hdv : nI i / 7 = nI (i / 7) := pk_div (a := i) (d := 7) (by omega) (by omega) (by omega)
  have hrm : pm_rem (nI i) 7 = nI (i % 7) := pk_rem (a := i) (d := 7) (by omega) (by omega) (by omega)
  have next : ∀ ξ, repN ξ (dfold B1 (i + 1)) R → (∀ j, j ≠ 52 → ξ j = μ j) → ∃ ν, T (nI (i + 1), ξ) = some (nI 0, ν) ∧ frN μ ν ∧ ((0 : Nat) = 0 → repN ν (doA B 4 0 0) R ∧ ν 50 8 = μ 50 8 + milA B R 4 0 0) ∧ (¬ (0 : Nat) = 0 → ν = μ) := fun ξ h1 h2 => hT _ ⟨i + 1, ξ, rfl, by omega, by omega, h1, h2⟩
  rw [if_neg (show ¬ (49 : Int32) ≤ nI i from nI_ge (b := 49) hi (by omega))]
  dsimp only
  rw [hdv, hrm, let_eq, let_eq, jn_eq]
  have hcow := dfold_cows hc1 i (by omega)
  by_cases g1 : i % 7 ≤ i / 7
  · rw [if_pos (nI_le g1 (by omega)), nI_1]
    exact next ν (by show repN ν (dstep (dfold B1 i) i) R; rw [dstep_no g1]; exact ⟨e3, e4⟩) e5
  rw [if_neg (nI_ge (by omega) (by omega)), ck_in (by omega) (by omega), nI_clamp (by omega)]
  have e3i := e3 i (by omega)
  by_cases g2 : ¬ dfold B1 i i = 0
  · rw [if_neg (by rw [e3i]; exact g2), nI_1]
    refine next ν ?_ e5
    show repN ν (dstep (dfold B1 i) i) R
    unfold dstep
    rw [if_neg (fun z => g2 z.2)]
    exact ⟨e3, e4⟩
  have g2 : dfold B1 i i = 0 := Decidable.not_not.mp g2
  obtain ⟨x, hx, ex⟩ := hcow (i / 7) (by omega)
  obtain ⟨y, hy, ey⟩ := hcow (i % 7) (by omega)
  rw [if_pos (by rw [e3i]; exact g2), i56, i56, ck_in (by omega) (by omega), ck_in (by omega) (by omega), nI_clamp (by omega), nI_clamp (by omega), let_eq, e3 _ (by omega), e3 _ (by omega), ex, ey]
  have hj : ∀ (J : Int32 → Option (Int32 × pm_M)), pm_jn J (fun j98 => if nI x - nI y ≤ 0 then (if 0 ≤ nI x - nI y then j98 0 else j98 (-1)) else j98 1) = J (cmpA (nI x) (nI y)) := by
    intro J
    rw [← off_cmp hx hy]
    unfold pm_jn
    split
    · split <;> rfl
    · rfl
  rw [hj, ck_in (by omega) (by omega), ck_in (by omega) (by omega), let_eq, ck_in (by omega) (by omega), ck_in (by omega) (by omega), let_eq, nI_1, up_r, upd_n (show 56 + i % 7 ≠ 56 + i / 7 by omega), e3 _ (by omega), ey]
  refine next _ ⟨fun m hm => ?_, fun m hm => ?_⟩ (fun j hj => by rw [up_o hj, up_o hj]; exact e5 j hj)
  · rw [up_r, up_r]
    show _ = dstep (dfold B1 i) i m
    unfold dstep
    rw [if_pos ⟨by omega, g2⟩, ex, ey]
    unfold upd
    rw [e3 m hm]
  · rw [up_o (by decide), up_o (by decide)]; exact e4 m hm
end MACT
