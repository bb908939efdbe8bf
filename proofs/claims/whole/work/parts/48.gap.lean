/-! the first gap that an act makes -/
def fnd (P : Nat → Bool) : Nat → Nat → Option Nat
  | _, 0 => none
  | i, n + 1 => if P i = true then some i else fnd P (i + 1) n
theorem fnd_none {P : Nat → Bool} : ∀ n i, (∀ j, i ≤ j → j < i + n → P j = false) → fnd P i n = none
  | 0, _, _ => rfl
  | n + 1, i, h => by
    show (if P i = true then some i else fnd P (i + 1) n) = none
    rw [if_neg (by rw [h i (Nat.le_refl i) (by omega)]; decide), fnd_none n (i + 1) (fun j h1 h2 => h j (by omega) (by omega))]
theorem fnd_at {P : Nat → Bool} {j : Nat} (hp : P j = true) : ∀ n i, i ≤ j → j < i + n → (∀ m, i ≤ m → m < j → P m = false) → fnd P i n = some j
  | 0, i, h1, h2, _ => by omega
  | n + 1, i, h1, h2, h => by
    show (if P i = true then some i else fnd P (i + 1) n) = some j
    by_cases q : i = j
    · subst q; rw [if_pos hp]
    · rw [if_neg (by rw [h i (Nat.le_refl i) (by omega)]; decide), fnd_at hp n (i + 1) (by omega) (by omega) (fun m a c => h m (by omega) c)]
def gapP (B B' : Nat → Int32) (i : Nat) : Bool := decide (i / 7 < i % 7) && (decide (B' i = 0) && decide (0 < B i))
theorem gapP_iff {B B' : Nat → Int32} {i : Nat} : gapP B B' i = true ↔ i / 7 < i % 7 ∧ B' i = 0 ∧ 0 < B i := by
  unfold gapP
  rw [Bool.and_eq_true, Bool.and_eq_true, decide_eq_true_eq, decide_eq_true_eq, decide_eq_true_eq]
theorem gapP_no {B B' : Nat → Int32} {i : Nat} (h : ¬ (i / 7 < i % 7 ∧ B' i = 0 ∧ 0 < B i)) : gapP B B' i = false := by
  cases q : gapP B B' i with
  | false => rfl
  | true => exact absurd (gapP_iff.mp q) h
def gapV : Option Nat → Int32
  | some i => nI (10 * (i / 7) + i % 7)
  | none => -6
def gapO (B B' : Nat → Int32) : Option Nat := fnd (gapP B B') 0 49
theorem gap_same {B B' : Nat → Int32} (h : ∀ i, i < 49 → B' i = B i) : gapO B B' = none := by
  refine fnd_none 49 0 (fun j _ hj => gapP_no (fun q => ?_))
  rw [h j (by omega)] at q
  rw [q.2.1] at q
  exact absurd q.2.2 (by decide)
theorem gap_k0 {B : Nat → Int32} {a n : Nat} : gapO B (doA B 0 a n) = none := gap_same (fun i hi => by rw [doA_0, upd_n (by omega)])
theorem gap_k4 {B : Nat → Int32} {a n : Nat} : gapO B (doA B 4 a n) = none := gap_same (fun i hi => by rw [doA_4]; unfold dayA; rw [upd_n (by omega), dfold_lo (by omega) 49 (by omega)])
theorem mend_ne {k : Nat} (hk : k ≤ 9) : ¬ mend1 (nI k) = 0 := by
  unfold mend1
  rw [show nI k + 3 = nI (k + 3) from nI_add k 3]
  split
  · exact nI_ne (c := 0) (by omega) (by omega) (by omega)
  · decide
theorem gap_k1 {B R : Nat → Int32} {a n : Nat} (h : okB B R) (ha : a < 7) (hw : whyA B R 1 a n = 0) : gapO B (doA B 1 a n) = none := by
  obtain ⟨hp, -⟩ := pl_ok h ha
  rw [whyA_1] at hw
  by_cases q1 : plA B a = a
  · rw [if_pos q1] at hw; cases hw
  rw [if_neg q1] at hw
  by_cases q2 : B (7 * a + plA B a) < 0
  · rw [if_pos q2] at hw; cases hw
  obtain ⟨j, hj, e⟩ := okS_cases (h.2.2.1 (7 * a + plA B a) (by omega)) q2
  refine fnd_none 49 0 (fun i _ hi => gapP_no (fun q => ?_))
  rw [doA_1, lay_at, e] at q
  by_cases g1 : i = 7 * plA B a + a
  · rw [if_pos g1] at q; exact mend_ne hj q.2.1
  · rw [if_neg g1] at q
    by_cases g2 : i = 7 * a + plA B a
    · rw [if_pos g2] at q; exact mend_ne hj q.2.1
    · rw [if_neg g2] at q
      rw [q.2.1] at q
      exact absurd q.2.2 (by decide)
theorem half0 {k : Nat} (hk : k ≤ 9) : nI k / 2 = 0 ↔ k < 2 := by
  rw [half_eq hk, show (0 : Int32) = nI 0 from rfl, nI_inj (by omega) (by omega)]
  omega
theorem pos_iff {k : Nat} (hk : k ≤ 9) : 0 < nI k ↔ 0 < k := nI_ltI (a := 0) (by omega) (by omega)
section GAP
variable {b : Nat} {μ : pm_M} {B R : Nat → Int32}
theorem gm_other {p1 : Int32} {x y : Int32} (h2 : ¬ p1 = 2) (h3 : ¬ p1 = 3) : f_X2_gapMadeBy b p1 x y μ = some (-6) := by
  unfold f_X2_gapMadeBy
  rw [jn_eq, if_neg h2, if_neg h3]
theorem gm2 {a n : Nat} (hr : repM μ b B R) (h : okB B R) (ha : a < 7) (hn : n < 7) (hw : whyA B R 2 a n = 0) : f_X2_gapMadeBy b (nI 2) (nI a) (nI n) μ = some (gapV (gapO B (doA B 2 a n))) := by
  rw [whyA_2] at hw
  by_cases q1 : ¬ plA B a = a
  · rw [if_neg q1] at hw; cases hw
  have q1 : plA B a = a := Decidable.not_not.mp q1
  rw [if_pos q1] at hw
  by_cases q2 : B (7 * a + n) < 0
  · rw [if_pos q2] at hw; cases hw
  have hne : a ≠ n := by
    rintro rfl
    rw [show 7 * a + a = 8 * a by omega, h.2.1 a ha] at q2
    exact q2 neg6
  obtain ⟨j, hj, e⟩ := okS_cases (h.2.2.1 (7 * a + n) (by omega)) q2
  unfold f_X2_gapMadeBy
  rw [jn_eq, if_pos (show nI 2 = (2 : Int32) from rfl), strB_eq ha hn, b_some, hr.1 _ (by omega), e]
  have hsym : B (7 * n + a) = nI j := by rw [← h.1 a n ha hn]; exact e
  by_cases q : j = 1
  · subst q
    rw [if_pos (show nI 1 = (1 : Int32) from rfl), let_eq, let_eq]
    have hlt : (if nI n < nI a then nI n else nI a) = nI (min a n) ∧ (if nI a < nI n then nI n else nI a) = nI (max a n) := by
      rcases Nat.lt_or_gt_of_ne hne with g | g
      · rw [if_neg (nI_nlt (by omega) (by omega)), if_pos (nI_lt g (by omega)), Nat.min_eq_left (by omega), Nat.max_eq_right (by omega)]
        exact ⟨rfl, rfl⟩
      · rw [if_pos (nI_lt g (by omega)), if_neg (nI_nlt (by omega) (by omega)), Nat.min_eq_right (by omega), Nat.max_eq_left (by omega)]
        exact ⟨rfl, rfl⟩
    rw [hlt.1, hlt.2, show (10 : Int32) = nI 10 from rfl, pk_mul, nI_add]
    have hfnd : gapO B (doA B 2 a n) = some (7 * min a n + max a n) := by
      have hmin : min a n < max a n ∧ max a n < 7 := by omega
      refine fnd_at (gapP_iff.mpr ⟨by omega, ?_, ?_⟩) 49 0 (by omega) (by omega) (fun m _ hm => gapP_no (fun g => ?_))
      · rw [doA_2, lay_at, e]
        rcases Nat.lt_or_gt_of_ne hne with g | g
        · rw [if_neg (by omega), if_pos (by omega)]; decide
        · rw [if_pos (by omega)]; decide
      · rcases Nat.lt_or_gt_of_ne hne with g | g
        · rw [show 7 * min a n + max a n = 7 * a + n by omega, e]; decide
        · rw [show 7 * min a n + max a n = 7 * n + a by omega, hsym]; decide
      · rw [doA_2, lay_at] at g
        have g1 : m ≠ 7 * n + a := by
          intro z
          rcases Nat.lt_or_gt_of_ne hne with y | y
          · have := g.1; omega
          · omega
        have g2 : m ≠ 7 * a + n := by
          intro z
          rcases Nat.lt_or_gt_of_ne hne with y | y
          · omega
          · have := g.1; omega
        rw [if_neg g1, if_neg g2] at g
        rw [g.2.1] at g
        exact absurd g.2.2 (by decide)
    rw [hfnd]
    show some (nI (10 * min a n + max a n)) = some (nI (10 * ((7 * min a n + max a n) / 7) + (7 * min a n + max a n) % 7))
    rw [show (7 * min a n + max a n) / 7 = min a n by omega, show (7 * min a n + max a n) % 7 = max a n by omega]
  · rw [if_neg (show ¬ nI j = (1 : Int32) from nI_ne (c := 1) q (by omega) (by omega)), if_neg (by decide)]
    have hfnd : gapO B (doA B 2 a n) = none := by
      refine fnd_none 49 0 (fun m _ hm => gapP_no (fun g => ?_))
      rw [doA_2, lay_at, e] at g
      by_cases g1 : m = 7 * n + a
      · rw [if_pos g1, half0 hj, g1, hsym, pos_iff hj] at g; omega
      · rw [if_neg g1] at g
        by_cases g2 : m = 7 * a + n
        · rw [if_pos g2, half0 hj, g2, e, pos_iff hj] at g; omega
        · rw [if_neg g2] at g
          rw [g.2.1] at g
          exact absurd g.2.2 (by decide)
    rw [hfnd]
    rfl
theorem gm3_iff {n : Nat} (h : okB B R) (hn : n ≤ 9) {i : Nat} (hi : i < 49) (hd : i / 7 < i % 7) : gapP B (blowA B n) i = true ↔ ¬ B i ≤ 0 ∧ ¬ nI n < B i := by
  rw [gapP_iff]
  unfold blowA
  rw [pre_lt hi]
  unfold blow1
  rcases h.2.2.1 i hi with e | ⟨k, hk, e⟩
  · rw [e]
    constructor
    · intro q; exact absurd q.2.2 (by decide)
    · intro q; exact absurd (by decide) q.1
  · rw [e, if_neg (nI_pos (by omega))]
    constructor
    · rintro ⟨-, q1, q2⟩
      refine ⟨Int32.not_le.mpr q2, fun q3 => ?_⟩
      have hlt := (nI_ltI (by omega) (by omega)).mp q3
      rw [pk_sub (by omega), if_pos ((pos_iff (k := k - n) (by omega)).mpr (by omega))] at q1
      exact nI_ne (a := k - n) (c := 0) (by omega) (by omega) (by omega) q1
    · rintro ⟨q1, q2⟩
      refine ⟨hd, ?_, Int32.not_le.mp q1⟩
      have hle : k ≤ n := by
        rcases Nat.lt_or_ge n k with g | g
        · exact absurd (nI_lt g (by omega)) q2
        · exact g
      rw [if_neg]
      intro q3
      rcases Nat.eq_or_lt_of_le hle with g | g
      · rw [g, pk_sub (Nat.le_refl n), Nat.sub_self] at q3; exact absurd q3 (by decide)
      · exact absurd (pk_sneg (by omega) g) (Int32.not_lt.mpr (Int32.le_of_lt q3))
theorem gm3 {x : Int32} {n : Nat} (hr : repM μ b B R) (h : okB B R) (hn : n ≤ 9) : f_X2_gapMadeBy b (nI 3) x (nI n) μ = some (gapV (gapO B (doA B 3 0 n))) := by
  unfold f_X2_gapMadeBy
  rw [jn_eq, if_neg (by decide), if_pos (show nI 3 = (3 : Int32) from rfl), doA_3]
  have key : f_X2_gapMadeByWind b (nI n) μ = some (gapV (gapO B (blowA B n))) := by
    unfold f_X2_gapMadeByWind
    have no : ∀ i, i % 7 ≤ i / 7 → gapP B (blowA B n) i = false := fun i hi => gapP_no (fun q => by have := q.1; omega)
    refine it_wp (fun k s => ∃ a, s = nI a ∧ a + k = 8 ∧ a ≤ 7 ∧ ∀ m, m < 7 * a → gapP B (blowA B n) m = false) (fun o => o = some (gapV (gapO B (blowA B n)))) (fun s g => by obtain ⟨a, -, g1, g2, -⟩ := g; omega) (fun k s g T hT => ?_) 5000 8 _ (by omega) ⟨0, rfl, by omega, by omega, fun m hm => by omega⟩
    obtain ⟨a, rfl, e1, e2, e3⟩ := g
    unfold f_X2_gapMadeByWind_b2
    by_cases q : a = 7
    · subst q
      rw [if_pos (show (7 : Int32) ≤ nI 7 by decide)]
      have : gapO B (blowA B n) = none := fnd_none 49 0 (fun j _ hj => e3 j (by omega))
      rw [this]
      rfl
    · rw [if_neg (show ¬ (7 : Int32) ≤ nI a from nI_ge (b := 7) (by omega) (by omega)), let_eq, show nI a + (1 : Int32) = nI (a + 1) from nI_1 a]
      refine it_wp (fun k s => ∃ c, s = nI c ∧ c + k = 8 ∧ c ≤ 7 ∧ a + 1 ≤ c ∧ ∀ m, m < 7 * a + c → gapP B (blowA B n) m = false) (fun o => o = some (gapV (gapO B (blowA B n)))) (fun s g => by obtain ⟨c, -, g1, g2, -⟩ := g; omega) (fun k' s g T' hT' => ?_) 5000 (8 - (a + 1)) _ (by omega) ⟨a + 1, rfl, by omega, by omega, by omega, fun m hm => by
        rcases Nat.lt_or_ge m (7 * a) with g | g
        · exact e3 m g
        · exact no m (by omega)⟩
      obtain ⟨c, rfl, f1, f2, f3, f4⟩ := g
      unfold f_X2_gapMadeByWind_b12
      by_cases qc : c = 7
      · subst qc
        rw [if_pos (show (7 : Int32) ≤ nI 7 by decide)]
        exact hT _ ⟨a + 1, rfl, by omega, by omega, fun m hm => f4 m (by omega)⟩
      · have hi : 7 * a + c < 49 := by omega
        rw [if_neg (show ¬ (7 : Int32) ≤ nI c from nI_ge (b := 7) (by omega) (by omega)), ix7, ck_in hi (by omega), nI_clamp (by omega), let_eq, jn_eq, hr.1 _ hi]
        have hiff := gm3_iff h hn hi (show (7 * a + c) / 7 < (7 * a + c) % 7 by omega)
        have next : gapP B (blowA B n) (7 * a + c) = false → T' (nI c + 1) = some (gapV (gapO B (blowA B n))) := by
          intro hf
          rw [nI_1]
          exact hT' _ ⟨c + 1, rfl, by omega, by omega, by omega, fun m hm => by
            rcases Nat.eq_or_lt_of_le (show m ≤ 7 * a + c by omega) with g | g
            · rw [g]; exact hf
            · exact f4 m g⟩
        by_cases p1 : B (7 * a + c) ≤ 0
        · rw [if_pos p1]
          exact next (by rw [Bool.eq_false_iff]; exact fun z => (hiff.mp z).1 p1)
        · rw [if_neg p1]
          by_cases p2 : nI n < B (7 * a + c)
          · rw [if_pos p2]
            exact next (by rw [Bool.eq_false_iff]; exact fun z => (hiff.mp z).2 p2)
          · rw [if_neg p2]
            have hfnd : gapO B (blowA B n) = some (7 * a + c) := fnd_at (hiff.mpr ⟨p1, p2⟩) 49 0 (by omega) (by omega) (fun m _ hm => f4 m hm)
            rw [hfnd, show (10 : Int32) = nI 10 from rfl, pk_mul, nI_add]
            show some (nI (10 * a + c)) = some (nI (10 * ((7 * a + c) / 7) + (7 * a + c) % 7))
            rw [show (7 * a + c) / 7 = a by omega, show (7 * a + c) % 7 = c by omega]
  rw [key, b_some]
end GAP
