section TM2
variable {h G N : Nat} {D : Nat → Nat}
theorem m113n {m w : pm_M} {S l : Nat} {y a : Int32} (hS : S < 128) (hl : l < 7) (hb : bt S l = false) {E : Int32 → Option (Int32 × pm_M)} : pm_it (f_X10_mends_b113 (nI S, w) (nI l, m) y) 5000 (a, 0) E = E a := by
  refine it_for (fun _ => (a, (0 : Int32))) 0 (fun j hj T => by omega) (fun T => ?_) 0 0 5000 (by omega) (by omega)
  unfold f_X10_mends_b113
  dsimp only
  rw [if_neg (by decide), m_has hS hl, b_some, hb, if_neg (show ¬ false = true by decide), if_pos rfl]
def cm (m0 m : pm_M) (h : Nat) (D : Nat → Nat) (N S l : Nat) : Prop := (∀ j, j ≠ 59 → m j = m0 j) ∧ (∀ S' x, 1 ≤ S' → S' < S → x < 7 → m 59 (7 * S' + x) = nI (thc h D N S' x)) ∧ ∀ x, x < l → m 59 (7 * S + x) = nI (thc h D N S x)
theorem m69 {m0 m w : pm_M} (hN : N = 128) (hh : h < 7) (hD : ∀ i, D i ≤ 1000000) (h58 : ∀ i, i < 49 → m0 58 i = nI (D i)) {S : Nat} (h1 : 1 ≤ S) (hS : S < 128) (hc : cm m0 m h D N S 0) {E : pm_M → Option (Int32 × pm_M)} (Q : Option (Int32 × pm_M) → Prop) (hE : ∀ ν, cm m0 ν h D N (S + 1) 0 → Q (E ν)) : Q (pm_it (f_X10_mends_b69 (nI h) (nI S, w)) 5000 (0, m) E) := by
  refine it_wp (fun k s => ∃ (l : Nat) (m : pm_M), s = (nI l, m) ∧ l + k = 8 ∧ l ≤ 7 ∧ cm m0 m h D N S l) Q (fun s g => by obtain ⟨H, m, -, e1, e2, -⟩ := g; omega) (fun k s g T hT => ?_) 5000 8 _ (by omega) ⟨0, m, rfl, by omega, by omega, hc⟩
  obtain ⟨l, m, rfl, e1, e2, e3⟩ := g
  unfold f_X10_mends_b69
  dsimp only
  by_cases q : l = 7
  · subst q
    rw [if_pos (by decide)]
    refine hE m ⟨e3.1, fun S' x a b c => ?_, fun x hx => by omega⟩
    rcases Nat.eq_or_lt_of_le (show S' ≤ S by omega) with z | z
    · rw [z]; exact e3.2.2 x c
    · exact e3.2.1 S' x a z c
  have hl : l < 7 := by omega
  have h58' : ∀ i, i < 49 → m 58 i = nI (D i) := fun i hi => by rw [e3.1 58 (by decide)]; exact h58 i hi
  rw [if_neg (show ¬ (7 : Int32) ≤ nI l from nI_ge (b := 7) hl (by omega)), nI_1]
  have put : Q (T (nI (l + 1), pm_up m 59 (7 * S + l) (nI (thc h D N S l)))) := by
    refine hT _ ⟨l + 1, _, rfl, by omega, by omega, fun j hj => by rw [up_o hj]; exact e3.1 j hj, fun S' x a b c => ?_, fun x hx => ?_⟩
    · rw [up_r, upd_n (by omega)]; exact e3.2.1 S' x a b c
    · rw [up_r]
      by_cases z : x = l
      · rw [z, upd_s]
      · rw [upd_n (by omega)]; exact e3.2.2 x (by omega)
  have eC := thc_eq (h := h) (D := D) (N := N) (S := S) (l := l) (by omega)
  unfold stC at eC
  by_cases hb : bt S l = true
  · rw [if_pos hb] at eC
    have b2 := b_2 S hS l hl hb
    have hS' := bt_pos hb
    have hDh := hD (7 * h + l)
    have go : ∀ a, a = (if S - 2 ^ l = 0 then D (7 * h + l) else 1000000) → Q (pm_it (f_X10_mends_b113 (nI S, w) (nI l, m) (nI (S - 2 ^ l))) 5000 (nI a, (0 : Int32)) (fun e113 => (f_X10_has (nI S) (nI l)).bind (fun r12 => (pm_jn (fun (a13 : Int32) => pm_ck (((7 : Int32) * nI S) + nI l) 896 (pm_let (pm_up m 59 (Int32.toNatClampNeg (((7 : Int32) * nI S) + nI l)) a13) (fun m14 => (T (nI (l + 1), m14))))) (fun j222 => (if r12 = 0 then (j222 (1000000 : Int32)) else (j222 e113))))))) := fun a ha => by
      rw [m113 (h := h) (N := N) hN hD h58' hS hl hb (by rw [ha]; split <;> omega) (fun x hx hx2 => e3.2.1 (S - 2 ^ l) x (by
        refine Nat.one_le_iff_ne_zero.mpr (fun z => ?_)
        rw [z, bt_0] at hx2
        cases hx2) (by omega) hx), m_has hS hl, b_some, if_pos hb, jn_eq, if_neg (by decide), ix7]
      dsimp only
      rw [ck_in (by omega) (by omega), nI_clamp (by omega), let_eq, ha, ← eC]
      exact put
    rw [b2.2.2.2, let_eq, jn_eq]
    by_cases z : S - 2 ^ l = 0
    · rw [if_pos (by rw [z]; rfl), ix7, ck_in (by omega) (by omega), nI_clamp (by omega), h58' _ (by omega)]
      have := go (D (7 * h + l)) (by rw [if_pos z])
      exact this
    · rw [if_neg (nI_ne0 (by omega) (by omega)), i1000000]
      exact go 1000000 (by rw [if_neg z])
  · have hb' : bt S l = false := by cases w : bt S l; rfl; exact absurd w hb
    rw [if_neg hb] at eC
    have b3 := b_3 S hS l hl hb'
    rw [b3.2.2.2, let_eq, jn_eq, if_neg (nI_ne0 (by omega) (by omega))]
    dsimp only
    rw [m113n hS hl hb', m_has hS hl, b_some, if_neg hb, jn_eq, if_pos rfl, ix7]
    dsimp only
    rw [ck_in (by omega) (by omega), nI_clamp (by omega), let_eq, i1000000, ← eC]
    exact put
theorem m61 {m0 m : pm_M} (hN : N = 128) (hh : h < 7) (hG : G < 128) (hD : ∀ i, D i ≤ 1000000) (h58 : ∀ i, i < 49 → m0 58 i = nI (D i)) (hc : cm m0 m h D N 1 0) {E : pm_M → Option (Int32 × pm_M)} (Q : Option (Int32 × pm_M) → Prop) (hE : ∀ ν, cm m0 ν h D N (G + 1) 0 → Q (E ν)) : Q (pm_it (f_X10_mends_b61 (nI h) (nI G)) 5000 (1, m) E) := by
  refine it_wp (fun k s => ∃ (S : Nat) (m : pm_M), s = (nI S, m) ∧ S + k = G + 2 ∧ 1 ≤ S ∧ S ≤ G + 1 ∧ cm m0 m h D N S 0) Q (fun s g => by obtain ⟨H, m, -, e1, e2, e3, -⟩ := g; omega) (fun k s g T hT => ?_) 5000 (G + 1) _ (by omega) ⟨1, m, rfl, by omega, by omega, by omega, hc⟩
  obtain ⟨S, m, rfl, e1, e2, e3, e4⟩ := g
  unfold f_X10_mends_b61
  dsimp only
  by_cases q : S = G + 1
  · subst q
    rw [if_pos (nI_lt (by omega) (by omega))]
    exact hE m e4
  rw [if_neg (nI_nlt (by omega) (by omega)), nI_1]
  exact m69 hN hh hD h58 e2 (by omega) e4 Q (fun ν f => hT _ ⟨S + 1, ν, rfl, by omega, by omega, by omega, f⟩)
theorem m249 {m : pm_M} (hN : N = 128) (hh : h < 7) (hG : G < 128) (hD : ∀ i, D i ≤ 1000000) (h58 : ∀ i, i < 49 → m 58 i = nI (D i)) (h59 : ∀ x, x < 7 → bt G x = true → m 59 (7 * G + x) = nI (thc h D N G x)) {a : Nat} (ha : a ≤ 1000000) {E : Int32 → Option (Int32 × pm_M)} : pm_it (f_X10_mends_b249 (nI h) (nI G) m) 5000 (nI a, 0) E = E (nI (mnf a (fun x => if bt G x = true then thc h D N G x + D (7 * x + h) else 1000000) 7)) := by
  refine it_for (fun k => (nI (mnf a (fun x => if bt G x = true then thc h D N G x + D (7 * x + h) else 1000000) k), nI k)) 7 (fun k hk T => ?_) (fun T => ?_) 7 0 5000 (by omega) (by omega)
  · unfold f_X10_mends_b249
    dsimp only
    have l1 := mnf_a (a := a) (f := fun x => if bt G x = true then thc h D N G x + D (7 * x + h) else 1000000) k
    have l2 := thc_le (h := h) (N := N) (S := G) (l := k) hD (by omega)
    have l3 := hD (7 * k + h)
    have es : mnf a (fun x => if bt G x = true then thc h D N G x + D (7 * x + h) else 1000000) (k + 1) = min (mnf a (fun x => if bt G x = true then thc h D N G x + D (7 * x + h) else 1000000) k) (if bt G k = true then thc h D N G k + D (7 * k + h) else 1000000) := rfl
    rw [if_neg (show ¬ (7 : Int32) ≤ nI k from nI_ge (b := 7) hk (by omega)), m_has hG hk, b_some, jn_eq, nI_1, es]
    by_cases q : bt G k = true
    · rw [if_pos q, if_neg (by decide), ix7, ix7, ck_in (by omega) (by omega), ck_in (by omega) (by omega), nI_clamp (by omega), nI_clamp (by omega), h59 k hk q, h58 _ (by omega), nI_add, if_pos q]
      dsimp only
      rw [jn_if, min_I (by omega) (by omega)]
    · rw [if_neg q, if_pos rfl, if_neg q, i1000000]
      dsimp only
      rw [jn_if, min_I (by omega) (by omega)]
  · unfold f_X10_mends_b249
    dsimp only
    rw [if_pos (by decide)]
end TM2
