/-! SEEN: the class keeps those of its cases that agree -/
theorem tk_s (P : Nat → Bool) {L : List Nat} {i x : Nat} (hg : L[i]? = some x) : (L.take (i + 1)).filter P = (L.take i).filter P ++ (if P x = true then [x] else []) := by
  rw [List.take_succ, hg, List.filter_append]
  show (L.take i).filter P ++ [x].filter P = _
  cases h : P x
  · rw [List.filter_cons_of_neg (by rw [h]; decide), List.filter_nil, if_neg (by decide)]
  · rw [List.filter_cons_of_pos h, List.filter_nil, if_pos rfl]
def ct (P : Nat → Bool) (L : List Nat) (i : Nat) : Nat := ((L.take i).filter P).length
theorem ct_s {P : Nat → Bool} {L : List Nat} {i x : Nat} (hg : L[i]? = some x) : ct P L (i + 1) = ct P L i + (if P x = true then 1 else 0) := by
  unfold ct
  rw [tk_s P hg, List.length_append]
  split <;> rfl
theorem ct_le (P : Nat → Bool) (L : List Nat) (i : Nat) : ct P L i ≤ i := Nat.le_trans (List.length_filter_le _ _) (by rw [List.length_take]; omega)
theorem add_loop {μ0 : pm_M} {L : List Nat} {d p : Nat} {v : Int32} (P : Nat → Bool) (hL : L.length ≤ 410) (hb : ∀ x, x ∈ L → x < 410) (hd : d ≤ 5) (hp : p ≤ 99) (h2 : μ0 10 2 = nI L.length) (hc : ∀ k x, L[k]? = some x → μ0 (10 + 1) k = nI x) (hP : ∀ x, x < 410 → ((if downB x d p = true then (1 : Int32) else 0) = v ↔ P x = true)) {E : Int32 × pm_M → Option (Int32 × pm_M)} (Q : Option (Int32 × pm_M) → Prop)
    (hE : ∀ ν, (∀ j, j ≠ 11 → ν j = μ0 j) → (∀ k x, (L.filter P)[k]? = some x → ν (10 + 1) k = nI x) → Q (E (nI (L.filter P).length, ν))) : Q (pm_it (f_X6_add_b27 10 (nI d) (nI p) v) 5000 (0, 0, μ0) E) := by
  refine it_wp (fun k s => ∃ i m, s = (nI (ct P L i), nI i, m) ∧ i + k = L.length + 1 ∧ i ≤ L.length ∧ (∀ j, j ≠ 11 → m j = μ0 j) ∧ (∀ k x, i ≤ k → L[k]? = some x → m (10 + 1) k = nI x) ∧ (∀ k x, ((L.take i).filter P)[k]? = some x → m (10 + 1) k = nI x)) Q (fun s h => by obtain ⟨i, m, -, e1, e2, -⟩ := h; omega) (fun k s h T hT => ?_) 5000 (L.length + 1) _ (by omega) ⟨0, μ0, rfl, by omega, by omega, fun _ _ => rfl, fun k x _ h => hc k x h, fun k x h => by cases h⟩
  obtain ⟨i, m, rfl, e1, e2, e3, e4, e5⟩ := h
  have h2' : m 10 2 = nI L.length := by rw [e3 10 (by decide)]; exact h2
  unfold f_X6_add_b27
  dsimp only
  by_cases q : i = L.length
  · rw [if_pos (show m 10 2 ≤ nI i by rw [h2', q]; exact nI_le (Nat.le_refl _) (by omega))]
    have e6 := e5
    rw [q, List.take_length] at e6
    have e7 : ct P L i = (L.filter P).length := by unfold ct; rw [q, List.take_length]
    rw [e7]
    exact hE m e3 e6
  have hi : i < L.length := by omega
  have hg : L[i]? = some L[i] := List.getElem?_eq_getElem hi
  generalize L[i] = x at hg
  have hx : x < 410 := hb x (List.mem_of_getElem? hg)
  have hlen := ct_le P L i
  have htk := tk_s P hg
  have hct := ct_s (P := P) hg
  rw [if_neg (show ¬ m 10 2 ≤ nI i by rw [h2']; exact nI_ge hi (by omega)), ck_in (show i < 410 by omega) (by omega), nI_clamp (by omega), e4 i x (Nat.le_refl _) hg, x_down hx hd hp, b_some, jn_eq]
  by_cases g : P x = true
  · rw [if_pos g] at htk hct
    rw [if_pos ((hP x hx).mpr g), ck_in (show i < 410 by omega) (by omega), ck_in (show ct P L i < 410 by omega) (by omega), let_eq, nI_clamp (by omega)]
    dsimp only
    rw [nI_1, nI_1]
    refine hT _ ⟨i + 1, pm_up m (10 + 1) (ct P L i) (nI x), by rw [hct], by omega, by omega, ?_, ?_, ?_⟩
    · intro j hj
      rw [up_o hj]
      exact e3 j hj
    · intro k y hk hy
      rw [up_r, upd_n (by omega)]
      exact e4 k y (by omega) hy
    · intro k y hy
      rw [htk] at hy
      by_cases hk : k < ct P L i
      · rw [List.getElem?_append_left hk] at hy
        rw [up_r, upd_n (by omega)]
        exact e5 k y hy
      · rw [List.getElem?_append_right (show ((L.take i).filter P).length ≤ k by unfold ct at hk; omega)] at hy
        rcases Nat.eq_or_lt_of_le (Nat.le_of_not_lt hk) with z | z
        · have z' : k - ((L.take i).filter P).length = 0 := by unfold ct at z; omega
          rw [z', List.getElem?_cons_zero] at hy
          cases hy
          rw [← z, up_r, upd_s]
        · rw [List.getElem?_eq_none (show [x].length ≤ k - ((L.take i).filter P).length by unfold ct at z; show 1 ≤ _; omega)] at hy
          cases hy
  · rw [if_neg g] at htk hct
    rw [if_neg (fun z => g ((hP x hx).mp z))]
    dsimp only
    rw [nI_1]
    refine hT _ ⟨i + 1, m, by rw [show ct P L (i + 1) = ct P L i from hct], by omega, by omega, e3, fun k y hk hy => e4 k y (by omega) hy, fun k y hy => ?_⟩
    rw [htk, List.append_nil] at hy
    exact e5 k y hy
