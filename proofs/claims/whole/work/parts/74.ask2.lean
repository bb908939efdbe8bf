def wst (F D : Nat) : Nat := if D < F - D then F - D else D
def wq (L : List Nat) (q : Nat) : Nat := wst L.length (cdn L (q / 100) (q % 100))
def stq (w : Nat → Nat) (l0 : Int32) : Nat → Int32 × Int32
  | 0 => (-6, l0)
  | q + 1 => if nI (w q) < (stq w l0 q).2 then (nI q, nI (w q)) else stq w l0 q
theorem cdn_le (L : List Nat) (d p : Nat) : cdn L d p ≤ L.length := ct_le _ _ _
theorem wq_le (L : List Nat) (q : Nat) : wq L q ≤ L.length := by
  have := cdn_le L (q / 100) (q % 100)
  unfold wq wst
  split <;> omega
theorem stq_at {w : Nat → Nat} {l0 : Int32} (hw : ∀ q, w q ≤ 410) (h0 : nI 410 < l0) : ∀ q, ∃ b, b ≤ q ∧ stq w l0 (q + 1) = (nI b, nI (w b)) ∧ ∀ l1 : Int32, nI 410 < l1 → stq w l1 (q + 1) = (nI b, nI (w b))
  | 0 => by
    have key : ∀ l1 : Int32, nI 410 < l1 → stq w l1 1 = (nI 0, nI (w 0)) := fun l1 h1 => if_pos (Int32.lt_of_le_of_lt (nI_le (hw 0) (by omega)) h1)
    exact ⟨0, Nat.le_refl 0, key l0 h0, key⟩
  | q + 1 => by
    obtain ⟨b, hb, -, e2⟩ := stq_at hw h0 q
    by_cases g : nI (w (q + 1)) < nI (w b)
    · have key : ∀ l1 : Int32, nI 410 < l1 → stq w l1 (q + 2) = (nI (q + 1), nI (w (q + 1))) := fun l1 h1 => by
        show (if nI (w (q + 1)) < (stq w l1 (q + 1)).2 then _ else _) = _
        rw [e2 l1 h1]
        exact if_pos g
      exact ⟨q + 1, Nat.le_refl _, key l0 h0, key⟩
    · have key : ∀ l1 : Int32, nI 410 < l1 → stq w l1 (q + 2) = (nI b, nI (w b)) := fun l1 h1 => by
        show (if nI (w (q + 1)) < (stq w l1 (q + 1)).2 then _ else _) = _
        rw [e2 l1 h1]
        exact if_neg g
      exact ⟨b, by omega, key l0 h0, key⟩
theorem wst_x {F D : Nat} (h : D ≤ F) (hF : F ≤ 410) : (if nI D < nI F - nI D then nI F - nI D else nI D) = nI (wst F D) := by
  unfold wst
  rw [pk_sub h]
  by_cases g : D < F - D
  · rw [if_pos (nI_lt g (by omega)), if_pos g]
  · rw [if_neg (nI_nlt (by omega) (by omega)), if_neg g]
theorem wst_m {F D : Nat} (h : D ≤ F) (hF : F ≤ 410) : (if nI D ≤ nI F - nI D then nI F - nI D else nI D) = nI (wst F D) := by
  unfold wst
  rw [pk_sub h]
  by_cases g : D < F - D
  · rw [if_pos (nI_le (by omega) (by omega)), if_pos g]
  · rw [if_neg g]
    by_cases g2 : D = F - D
    · rw [if_pos (nI_le (by omega) (by omega)), ← g2]
    · rw [if_neg (nI_ge (by omega) (by omega))]
theorem bq32 {v9 : Int32 × Int32 × Int32 × pm_M} {m : pm_M} {L : List Nat} {d : Nat} {l0 : Int32} (hd : d ≤ 5) (hv : v9.2.2.1 = nI d) (hL : L.length ≤ 410) (h2 : m 10 2 = nI L.length) (hp : ∀ p, p ≤ 99 → pref (m (10 + 2)) (p + 1) = nI (cdn L d p)) {E : Int32 × Int32 → Option (Int32 × pm_M)} : pm_it (f_X6_bestQuestion_b32 10 v9 m) 5000 ((stq (wq L) l0 (100 * d)).1, (stq (wq L) l0 (100 * d)).2, 0, 0) E = E (stq (wq L) l0 (100 * (d + 1))) := by
  refine it_for (fun k => ((stq (wq L) l0 (100 * d + k)).1, (stq (wq L) l0 (100 * d + k)).2, pref (m (10 + 2)) k, nI k)) 100 (fun k hk T => ?_) (fun T => ?_) 100 0 5000 (by omega) (by omega)
  · show (if (100 : Int32) ≤ nI k then _ else _) = _
    rw [if_neg (show ¬ (100 : Int32) ≤ nI k from nI_ge (b := 100) hk (by omega))]
    dsimp only
    rw [ck_in (by omega) (by omega), nI_clamp (by omega), show pref (m (10 + 2)) k + m (10 + 2) k = nI (cdn L d k) from hp k (by omega), h2, let_eq, wst_x (cdn_le _ _ _) hL, let_eq, jn_eq, hv, show (100 : Int32) * nI d = nI (100 * d) from pk_mul 100 d, nI_add, nI_1]
    have ew : wst L.length (cdn L d k) = wq L (100 * d + k) := by
      unfold wq
      rw [show (100 * d + k) / 100 = d by omega, show (100 * d + k) % 100 = k by omega]
    have es : stq (wq L) l0 (100 * d + (k + 1)) = if nI (wq L (100 * d + k)) < (stq (wq L) l0 (100 * d + k)).2 then (nI (100 * d + k), nI (wq L (100 * d + k))) else stq (wq L) l0 (100 * d + k) := rfl
    rw [ew, show pref (m (10 + 2)) (k + 1) = nI (cdn L d k) from hp k (by omega)]
    by_cases g : nI (wq L (100 * d + k)) < (stq (wq L) l0 (100 * d + k)).2
    · rw [if_neg (Int32.not_le.mpr g), let_eq, es, if_pos g]
    · rw [if_pos (Int32.not_lt.mp g), es, if_neg g]
  · show (if (100 : Int32) ≤ nI 100 then _ else _) = _
    rw [if_pos (by decide), show 100 * (d + 1) = 100 * d + 100 by omega]
theorem best_eq {μ : pm_M} {L : List Nat} (hL : L.length ≤ 410) (hb : ∀ x, x ∈ L → x < 410) (h2 : μ 10 2 = nI L.length) (hc : ∀ k x, L[k]? = some x → μ (10 + 1) k = nI x) : ∃ ν, f_X6_bestQuestion 10 μ = some (if L.length = 0 then -6 else (stq (wq L) 411 600).1, ν) ∧ ∀ j, j ≠ 12 → ν j = μ j := by
  unfold f_X6_bestQuestion
  refine it_wp (fun k s => ∃ (d : Nat) (m : pm_M), s = ((stq (wq L) 411 (100 * d)).1, (stq (wq L) 411 (100 * d)).2, nI d, m) ∧ d + k = 7 ∧ d ≤ 6 ∧ (L.length = 0 → d = 0) ∧ ∀ j, j ≠ 12 → m j = μ j) (fun o => ∃ ν : pm_M, o = some (if L.length = 0 then -6 else (stq (wq L) 411 600).1, ν) ∧ ∀ j, j ≠ 12 → ν j = μ j) (fun s h => by obtain ⟨d, m, -, e1, e2, -⟩ := h; omega) (fun k s h T hT => ?_) 5000 7 _ (by omega) ⟨0, μ, rfl, by omega, by omega, fun _ => rfl, fun _ _ => rfl⟩
  obtain ⟨d, m, rfl, e1, e2, e3, e4⟩ := h
  have h2' : m 10 2 = nI L.length := by rw [e4 10 (by decide)]; exact h2
  unfold f_X6_bestQuestion_b9
  dsimp only
  by_cases q0 : L.length = 0
  · rw [if_neg (show ¬ (5 : Int32) < nI d by rw [e3 q0]; decide), if_pos (show m 10 2 ≤ 0 by rw [h2', q0]; decide)]
    exact ⟨m, by rw [if_pos q0, e3 q0]; rfl, e4⟩
  by_cases q : d = 6
  · subst q
    rw [if_pos (by decide)]
    exact ⟨m, by rw [if_neg q0], e4⟩
  obtain ⟨ν, t1, t2, t3⟩ := tally_eq (d := d) hL hb (by omega) h2' (fun k x hx => by rw [e4 (10 + 1) (by decide)]; exact hc k x hx)
  rw [if_neg (show ¬ (5 : Int32) < nI _ from Int32.not_lt.mpr (nI_le (b := 5) (by omega) (by omega))), if_neg (show ¬ m 10 2 ≤ 0 by rw [h2']; exact nI_nle (by omega) (by omega)), t1, b_some, bq32 (L := L) (d := d) (by omega) rfl hL (by rw [t2 10 (by decide)]; exact h2') t3, nI_1]
  exact hT _ ⟨d + 1, ν, rfl, by omega, by omega, fun z => absurd z q0, fun j hj => (t2 j hj).trans (e4 j hj)⟩
theorem left_eq {μ : pm_M} {L : List Nat} {q : Nat} (hq : q < 600) (hL : L.length ≤ 410) (hb : ∀ x, x ∈ L → x < 410) (h2 : μ 10 2 = nI L.length) (hc : ∀ k x, L[k]? = some x → μ (10 + 1) k = nI x) : f_X6_leftAtMost 10 (nI q) μ = some (nI (wq L q)) := by
  unfold f_X6_leftAtMost
  refine (it_for (e := nI (cdn L (q / 100) (q % 100))) (fun i => (nI (ct (fun c => downB c (q / 100) (q % 100)) L i), nI i)) L.length (fun i hi T => ?_) (fun T => ?_) L.length 0 5000 (by omega) (by omega)).trans ?_
  · show (if μ 10 2 ≤ nI i then _ else _) = _
    have hg : L[i]? = some L[i] := List.getElem?_eq_getElem hi
    generalize L[i] = x at hg
    have hx : x < 410 := hb x (List.mem_of_getElem? hg)
    rw [if_neg (show ¬ μ 10 2 ≤ nI i by rw [h2]; exact nI_ge hi (by omega))]
    dsimp only
    rw [ck_in (by omega) (by omega), nI_clamp (by omega), hc i x hg, t100 (by omega), show pm_rem (nI q) 100 = nI (q % 100) from pk_rem (a := q) (d := 100) (by omega) (by omega) (by omega), x_down hx (by omega) (by omega), b_some, jn_eq, nI_1, ct_s hg]
    by_cases g : downB x (q / 100) (q % 100) = true
    · rw [if_pos g, if_neg (by decide), nI_1, if_pos g]
    · rw [if_neg g, if_pos rfl, if_neg g]
      rfl
  · show (if μ 10 2 ≤ nI L.length then _ else _) = _
    rw [if_pos (by rw [h2]; exact nI_le (Nat.le_refl _) (by omega))]
    rfl
  · rw [let_eq, h2]
    exact congrArg some (wst_x (cdn_le _ _ _) hL)
