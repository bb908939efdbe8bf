/-! whom he mends for, as bits -/
def gb (p : Nat → Bool) : Nat → Nat
  | 0 => 0
  | n + 1 => gb p n + (if p n = true then 2 ^ n else 0)
theorem gb_lt (p : Nat → Bool) : ∀ n, gb p n < 2 ^ n
  | 0 => by show 0 < 2 ^ 0; decide
  | n + 1 => by
    have := gb_lt p n
    show gb p n + (if p n = true then 2 ^ n else 0) < 2 ^ (n + 1)
    rw [Nat.pow_succ]
    split <;> omega
theorem gb_bit {p : Nat → Bool} {h : Nat} (hh : h < 7) (hp : p h = false) : ∀ n, n ≤ 7 → bt (gb p n) h = false
  | 0, _ => bt_0 h
  | n + 1, hn => by
    have ih := gb_bit hh hp n (by omega)
    have hl := gb_lt p n
    have h128 : gb p n < 128 := Nat.lt_of_lt_of_le hl (Nat.pow_le_pow_right (by omega) (show n ≤ 7 by omega))
    show bt (gb p n + (if p n = true then 2 ^ n else 0)) h = false
    by_cases q : p n = true
    · have hne : h ≠ n := fun z => by rw [← z, hp] at q; cases q
      have hb : bt (gb p n) n = false := by
        unfold bt
        rw [Nat.div_eq_of_lt hl]
        rfl
      rw [if_pos q, (b_4 h128 (by omega) hh).2 hb hne]
      exact ih
    · rw [if_neg q]
      exact ih
def want (B : Nat → Int32) (h x : Nat) : Bool := decide (¬ B (7 * h + x) < 0 ∧ ¬ 9 ≤ B (7 * h + x))
theorem want_iff {B : Nat → Int32} {h x : Nat} : want B h x = true ↔ ¬ B (7 * h + x) < 0 ∧ ¬ 9 ≤ B (7 * h + x) := by
  unfold want
  exact decide_eq_true_iff
theorem gb_or (p : Nat → Bool) {n : Nat} (hn : n < 7) : nI (gb p n) ||| (0 : Int32) = nI (gb p n) ∧ nI (gb p n) ||| ((1 : Int32) <<< (nI n &&& 31)) = nI (gb p n + 2 ^ n) := aw_or n hn (gb p n) (gb_lt p n)
theorem x_goal {m : pm_M} {B : Nat → Int32} {h : Nat} (hh : h < 7) (hs : ∀ i, i < 49 → m 3 i = B i) : f_X2_toBeMended 2 (nI h) m = some (nI (gb (want B h) 7)) := by
  unfold f_X2_toBeMended
  refine it_for (fun k => (nI (gb (want B h) k), nI k)) 7 (fun k hk T => ?_) (fun T => ?_) 7 0 5000 (by omega) (by omega)
  · unfold f_X2_toBeMended_b4
    dsimp only
    have hg := gb_or (want B h) hk
    have eg : gb (want B h) (k + 1) = gb (want B h) k + (if want B h k = true then 2 ^ k else 0) := rfl
    have es : m (2 + 1) (7 * h + k) = B (7 * h + k) := hs _ (by omega)
    rw [if_neg (show ¬ (7 : Int32) ≤ nI k from nI_ge (b := 7) hk (by omega)), strB_eq hh hk, b_some, jn_eq, nI_1, eg]
    by_cases q : want B h k = true
    · have hw := want_iff.mp q
      rw [if_neg (by rw [es]; exact hw.1), if_neg (by rw [es]; exact hw.2), let_eq, hg.2, if_pos q]
    · rw [if_neg q]
      by_cases z : m (2 + 1) (7 * h + k) < 0
      · rw [if_pos z]
        rfl
      · have : 9 ≤ m (2 + 1) (7 * h + k) := Classical.byContradiction (fun y => q (want_iff.mpr ⟨by rw [← es]; exact z, by rw [← es]; exact y⟩))
        rw [if_neg z, if_pos this]
        rfl
  · unfold f_X2_toBeMended_b4
    dsimp only
    rw [if_pos (by decide)]
theorem okS_8 {x : Int32} (h : okS x) : f_X10_in x 0 8 = some (if ¬ x < 0 ∧ ¬ 9 ≤ x then 1 else 0) := by
  rcases h with rfl | ⟨k, hk, rfl⟩
  · decide
  · rcases (show k = 0 ∨ k = 1 ∨ k = 2 ∨ k = 3 ∨ k = 4 ∨ k = 5 ∨ k = 6 ∨ k = 7 ∨ k = 8 ∨ k = 9 by omega) with rfl | rfl | rfl | rfl | rfl | rfl | rfl | rfl | rfl | rfl <;> decide
theorem m_goal {m : pm_M} {h : Nat} (hh : h < 7) (hs : ∀ i, i < 49 → okS (m 51 i)) {E : Int32 → Option (Int32 × pm_M)} : pm_it (f_X10_mends_b17 (nI h) m) 5000 (0, 0) E = E (nI (gb (want (m 51) h) 7)) := by
  refine it_for (fun k => (nI (gb (want (m 51) h) k), nI k)) 7 (fun k hk T => ?_) (fun T => ?_) 7 0 5000 (by omega) (by omega)
  · unfold f_X10_mends_b17
    dsimp only
    have hg := gb_or (want (m 51) h) hk
    have eg : gb (want (m 51) h) (k + 1) = gb (want (m 51) h) k + (if want (m 51) h k = true then 2 ^ k else 0) := rfl
    rw [if_neg (show ¬ (7 : Int32) ≤ nI k from nI_ge (b := 7) hk (by omega)), ix7, ck_in (by omega) (by omega), nI_clamp (by omega), okS_8 (hs _ (by omega)), b_some, jn_eq, nI_1, eg]
    by_cases q : want (m 51) h k = true
    · have hw := want_iff.mp q
      rw [if_pos hw, if_neg (by decide)]
      dsimp only
      rw [let_eq, hg.2, if_pos q]
    · rw [if_neg q, if_neg (fun z => q (want_iff.mpr z)), if_pos rfl]
      dsimp only
      rw [let_eq, hg.1]
      rfl
  · unfold f_X10_mends_b17
    dsimp only
    rw [if_pos (by decide)]
theorem m_has {S l : Nat} (hS : S < 128) (hl : l < 7) : f_X10_has (nI S) (nI l) = some (if bt S l = true then 1 else 0) := by
  unfold f_X10_has
  have := b_1 S hS l hl
  by_cases q : bt S l = true
  · rw [if_pos (this.mpr q), if_pos q]
  · rw [if_neg (fun z => q (this.mp z)), if_neg q]
section TM
variable {h G N : Nat} {D : Nat → Nat}
theorem thc_le {S l : Nat} (hD : ∀ i, D i ≤ 1000000) (hS : S < N) : thc h D N S l ≤ 1000000 := by
  rw [thc_eq hS]
  unfold stC
  split
  · refine Nat.le_trans (mnf_a 7) ?_
    split
    · exact hD _
    · omega
  · omega
theorem m113 {m w : pm_M} (hN : N = 128) (hD : ∀ i, D i ≤ 1000000) (h58 : ∀ i, i < 49 → m 58 i = nI (D i)) {S l a : Nat} (hS : S < 128) (hl : l < 7) (hb : bt S l = true) (ha : a ≤ 1000000) (h59 : ∀ x, x < 7 → bt (S - 2 ^ l) x = true → m 59 (7 * (S - 2 ^ l) + x) = nI (thc h D N (S - 2 ^ l) x)) {E : Int32 → Option (Int32 × pm_M)} : pm_it (f_X10_mends_b113 (nI S, w) (nI l, m) (nI (S - 2 ^ l))) 5000 (nI a, 0) E = E (nI (mnf a (fun x => if bt (S - 2 ^ l) x = true then thc h D N (S - 2 ^ l) x + D (7 * x + l) else 1000000) 7)) := by
  have hS' := bt_pos hb
  refine it_for (fun k => (nI (mnf a (fun x => if bt (S - 2 ^ l) x = true then thc h D N (S - 2 ^ l) x + D (7 * x + l) else 1000000) k), nI k)) 7 (fun k hk T => ?_) (fun T => ?_) 7 0 5000 (by omega) (by omega)
  · unfold f_X10_mends_b113
    dsimp only
    have l1 := mnf_a (a := a) (f := fun x => if bt (S - 2 ^ l) x = true then thc h D N (S - 2 ^ l) x + D (7 * x + l) else 1000000) k
    have l2 := thc_le (h := h) (N := N) (S := S - 2 ^ l) (l := k) hD (by omega)
    have l3 := hD (7 * k + l)
    have es : mnf a (fun x => if bt (S - 2 ^ l) x = true then thc h D N (S - 2 ^ l) x + D (7 * x + l) else 1000000) (k + 1) = min (mnf a (fun x => if bt (S - 2 ^ l) x = true then thc h D N (S - 2 ^ l) x + D (7 * x + l) else 1000000) k) (if bt (S - 2 ^ l) k = true then thc h D N (S - 2 ^ l) k + D (7 * k + l) else 1000000) := rfl
    rw [if_neg (show ¬ (7 : Int32) ≤ nI k from nI_ge (b := 7) hk (by omega)), m_has hS hl, b_some, if_pos hb, if_neg (by decide), m_has (by omega) hk, b_some, jn_eq, nI_1, es]
    by_cases q : bt (S - 2 ^ l) k = true
    · rw [if_pos q, if_neg (by decide), ix7, ix7, ck_in (by omega) (by omega), ck_in (by omega) (by omega), nI_clamp (by omega), nI_clamp (by omega), h59 k hk q, h58 _ (by omega), nI_add, if_pos q]
      dsimp only
      rw [jn_if, min_I (by omega) (by omega)]
    · rw [if_neg q, if_pos rfl, if_neg q, i1000000]
      dsimp only
      rw [jn_if, min_I (by omega) (by omega)]
  · unfold f_X10_mends_b113
    dsimp only
    rw [if_pos (by decide)]
end TM
