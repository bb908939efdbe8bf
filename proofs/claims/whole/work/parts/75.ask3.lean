theorem fit_loop {μ : pm_M} {N : Nat} (hN : N ≤ 8) (h4 : μ 50 4 = nI N) (hs : okSg (μ 55) N) {E : Int32 × pm_M → Option (Int32 × pm_M)} (Q : Option (Int32 × pm_M) → Prop) (hE : ∀ ν, (∀ j, j ≠ 63 → ν j = μ j) → (∀ k x, (fitL (μ 55) N)[k]? = some x → ν 63 k = nI x) → Q (E (nI (fitL (μ 55) N).length, ν))) : Q (pm_it f_X10_ask_b16 5000 (0, 0, μ) E) := by
  refine it_wp (fun k s => ∃ (i : Nat) (m : pm_M), s = (nI (cntF (sfit (μ 55) N) i), nI i, m) ∧ i + k = 411 ∧ i ≤ 410 ∧ (∀ j, j ≠ 63 → m j = μ j) ∧ ∀ k x, ((List.range i).filter (sfit (μ 55) N))[k]? = some x → m 63 k = nI x) Q (fun s h => by obtain ⟨i, m, -, e1, e2, -⟩ := h; omega) (fun k s h T hT => ?_) 5000 411 _ (by omega) ⟨0, μ, rfl, by omega, by omega, fun _ _ => rfl, fun k x h => by cases h⟩
  obtain ⟨i, m, rfl, e1, e2, e3, e4⟩ := h
  unfold f_X10_ask_b16
  dsimp only
  by_cases q : i = 410
  · subst q
    rw [if_pos (show (410 : Int32) ≤ nI 410 by decide)]
    exact hE m e3 e4
  have hi : i < 410 := by omega
  have h55 : m 55 = μ 55 := e3 55 (by decide)
  have hcs := cnt_s (sfit (μ 55) N) i
  have hcl := cnt_le (sfit (μ 55) N) i
  have hfl := fl_s (sfit (μ 55) N) i
  rw [if_neg (show ¬ (410 : Int32) ≤ nI i from nI_ge (b := 410) hi (by omega)), m_fit (μ := m) hN (by rw [e3 50 (by decide)]; exact h4) (by rw [h55]; exact hs) hi, h55, b_some, jn_eq]
  by_cases g : sfit (μ 55) N i = true
  · rw [if_pos g] at hcs hfl
    rw [if_pos g, if_neg (by decide), ck_in (show cntF (sfit (μ 55) N) i < 410 by omega) (by omega), nI_clamp (by omega), let_eq, nI_1, nI_1]
    refine hT _ ⟨i + 1, pm_up m 63 (cntF (sfit (μ 55) N) i) (nI i), by rw [hcs], by omega, by omega, fun j hj => by rw [up_o hj]; exact e3 j hj, fun k y hy => ?_⟩
    rw [hfl] at hy
    by_cases hk : k < cntF (sfit (μ 55) N) i
    · rw [List.getElem?_append_left hk] at hy
      rw [up_r, upd_n (by omega)]
      exact e4 k y hy
    · rw [List.getElem?_append_right (show ((List.range i).filter (sfit (μ 55) N)).length ≤ k by unfold cntF at hk; omega)] at hy
      rcases Nat.eq_or_lt_of_le (Nat.le_of_not_lt hk) with z | z
      · have z' : k - ((List.range i).filter (sfit (μ 55) N)).length = 0 := by unfold cntF at z; omega
        rw [z', List.getElem?_cons_zero] at hy
        cases hy
        rw [← z, up_r, upd_s]
      · rw [List.getElem?_eq_none (show [i].length ≤ k - ((List.range i).filter (sfit (μ 55) N)).length by unfold cntF at z; show 1 ≤ _; omega)] at hy
        cases hy
  · rw [if_neg g] at hcs hfl
    rw [if_neg g, if_pos rfl, nI_1]
    refine hT _ ⟨i + 1, m, by rw [show cntF (sfit (μ 55) N) (i + 1) = cntF (sfit (μ 55) N) i from hcs], by omega, by omega, e3, fun k y hy => ?_⟩
    rw [hfl, List.append_nil] at hy
    exact e4 k y hy
theorem ask75 {ν : pm_M} {L : List Nat} {v : Int32 × Int32 × Int32} {q : Nat} (hq : q < 600) (hv : v.2.2 = nI q) (hL : L.length ≤ 410) (hb : ∀ x, x ∈ L → x < 410) (hc : ∀ k x, L[k]? = some x → ν 63 k = nI x) {E : Int32 → Option (Int32 × pm_M)} : pm_it (f_X10_ask_b75 (nI L.length, ν) v) 5000 (0, 0) E = E (nI (cdn L (q / 100) (q % 100))) := by
  refine it_for (fun i => (nI (ct (fun c => downB c (q / 100) (q % 100)) L i), nI i)) L.length (fun i hi T => ?_) (fun T => ?_) L.length 0 5000 (by omega) (by omega)
  · show (if nI L.length ≤ nI i then _ else _) = _
    have hg : L[i]? = some L[i] := List.getElem?_eq_getElem hi
    generalize L[i] = x at hg
    have hx : x < 410 := hb x (List.mem_of_getElem? hg)
    rw [if_neg (nI_ge hi (by omega))]
    dsimp only
    rw [ck_in (by omega) (by omega), nI_clamp (by omega), hc i x hg, hv, t100 (by omega), show pm_rem (nI q) 100 = nI (q % 100) from pk_rem (a := q) (d := 100) (by omega) (by omega) (by omega), m_down hx (by omega) (by omega), b_some, jn_eq, nI_1, ct_s hg]
    by_cases g : downB x (q / 100) (q % 100) = true
    · rw [if_pos g, if_neg (by decide)]
      dsimp only
      rw [let_eq, nI_1, if_pos g]
    · rw [if_neg g, if_pos rfl]
      dsimp only
      rw [let_eq, if_neg g, Int32.add_zero]
      rfl
  · show (if nI L.length ≤ nI L.length then _ else _) = _
    rw [if_pos (nI_le (Nat.le_refl _) (by omega))]
    rfl
theorem pr_eta {α β : Type} (p : α × β) : (p.1, p.2) = p := rfl
theorem ask57 {ν : pm_M} {L : List Nat} {M : Nat} (hM : M = 600) (hL : L.length ≤ 410) (h0 : 0 < L.length) (hb : ∀ x, x ∈ L → x < 410) (hc : ∀ k x, L[k]? = some x → ν 63 k = nI x) {E : Int32 × Int32 → Option (Int32 × pm_M)} : pm_it (f_X10_ask_b57 (nI L.length, ν)) 5000 (-6, 1000000, 0) E = E (stq (wq L) 1000000 M) := by
  refine it_for (fun q => ((stq (wq L) 1000000 q).1, (stq (wq L) 1000000 q).2, nI q)) M (fun q hq T => ?_) (fun T => ?_) M 0 5000 (by omega) (by omega)
  · show (if (600 : Int32) ≤ nI q then _ else _) = _
    rw [if_neg (show ¬ (600 : Int32) ≤ nI q from nI_ge (b := 600) (by omega) (by omega)), if_neg (nI_nle h0 (by omega)), ask75 (q := q) (by omega) rfl hL hb hc]
    dsimp only
    rw [jn_if, wst_m (cdn_le _ _ _) hL, jn_if, jn_if, nI_1]
    have ew : wst L.length (cdn L (q / 100) (q % 100)) = wq L q := rfl
    have es : stq (wq L) 1000000 (q + 1) = if nI (wq L q) < (stq (wq L) 1000000 q).2 then (nI q, nI (wq L q)) else stq (wq L) 1000000 q := rfl
    rw [ew]
    by_cases g : nI (wq L q) < (stq (wq L) 1000000 q).2
    · rw [if_neg (Int32.not_le.mpr g), if_neg (Int32.not_le.mpr g), es, if_pos g]
    · rw [if_pos (Int32.not_lt.mp g), if_pos (Int32.not_lt.mp g), es, if_neg g]
  · exact (if_pos (show (600 : Int32) ≤ nI M by rw [hM]; decide)).trans (congrArg E (pr_eta _))
theorem okask : ok_ask Rel := by
  intro p1 μ hR
  obtain ⟨N, hN, e1, e2, hs, hf, hc⟩ := id hR.2.2.1
  have hs : okSg (μ 55) N := hs
  unfold f_X9_ask
  rcases in_or p1 (n := 2) (by omega) with h | ⟨p, hp, rfl⟩
  · exact ⟨-2, μ, μ, by rw [zo_out h, b_some, if_pos rfl], by unfold f_X10_ask; rw [zi_out h, b_some, if_pos rfl], hR⟩
  have hL := fit_len (μ 55) N
  have hb : ∀ x, x ∈ fitL (μ 55) N → x < 410 := fun x hx => fit_lt hx
  rw [zo_in hp, b_some, if_neg (by decide)]
  obtain ⟨ν, b1, b2⟩ := best_eq hL hb hf hc
  rw [b1, b_some]
  have f0 : fr0 μ ν := ⟨fun j a b => b2 j (fun q => by rw [q] at a; cases a), by rw [b2 50 (by decide)], by rw [b2 50 (by decide)]⟩
  have h55 : ν 55 = μ 55 := b2 55 (by decide)
  have model : ∀ (r : Int32), (∀ ξ, (∀ j, j ≠ 63 → ξ j = ν j) → (∀ k x, (fitL (μ 55) N)[k]? = some x → ξ 63 k = nI x) → pm_it (f_X10_ask_b57 (nI (fitL (μ 55) N).length, ξ)) 5000 ((-6 : Int32), (1000000 : Int32), (0 : Int32)) (fun e57 => (if e57.1 < 0 then (some (e57.1, ξ)) else (if nI p = 0 then (some (e57.1, ξ)) else (some (e57.2, ξ))))) = some (r, ξ)) → ∃ ξ, f_X10_ask (nI p) ν = some (r, ξ) ∧ Rel ξ := fun r hr => by
    unfold f_X10_ask
    rw [zi_in hp, b_some, if_neg (by decide)]
    refine fit_loop (μ := ν) hN (by rw [b2 50 (by decide)]; exact e2) (by rw [h55]; exact hs) (fun o => ∃ ξ : pm_M, o = some (r, ξ) ∧ Rel ξ) (fun ξ f1 f2 => ?_)
    rw [h55] at f2 ⊢
    exact ⟨ξ, hr ξ f1 f2, Rel_fr ⟨fun j a b => f1 j (fun q => by rw [q] at a; cases a), by rw [f1 50 (by decide)], by rw [f1 50 (by decide)]⟩ (Rel_fr f0 hR)⟩
  by_cases q0 : (fitL (μ 55) N).length = 0
  · rw [if_pos q0]
    obtain ⟨ξ, x1, x2⟩ := model (-6) (fun ξ f1 f2 => by
      rw [q0]
      show f_X10_ask_b57 (nI 0, ξ) (-6, 1000000, 0) _ _ = _
      unfold f_X10_ask_b57
      dsimp only
      rw [if_neg (by decide), if_pos (by decide), if_pos (by decide)])
    exact ⟨-6, ν, ξ, by rw [if_pos rfl], x1, x2⟩
  rw [if_neg q0]
  obtain ⟨b, hb6, s1, s2⟩ := stq_at (w := wq (fitL (μ 55) N)) (l0 := 411) (fun q => Nat.le_trans (wq_le _ q) hL) (by decide) 599
  have s1 : stq (wq (fitL (μ 55) N)) 411 600 = (nI b, nI (wq (fitL (μ 55) N) b)) := s1
  have s2 : stq (wq (fitL (μ 55) N)) 1000000 600 = (nI b, nI (wq (fitL (μ 55) N) b)) := s2 1000000 (by decide)
  rw [s1]
  dsimp only
  rw [if_neg (nI_m6 (by omega))]
  rcases (show p = 0 ∨ p = 1 by omega) with rfl | rfl
  · obtain ⟨ξ, x1, x2⟩ := model (nI b) (fun ξ f1 f2 => by
      rw [ask57 (M := 600) rfl hL (by omega) hb f2, s2]
      dsimp only
      rw [if_neg (nI_pos (by omega)), if_pos (show nI 0 = 0 from rfl)])
    exact ⟨nI b, ν, ξ, by rw [if_pos (show nI 0 = 0 from rfl)], x1, x2⟩
  · obtain ⟨ξ, x1, x2⟩ := model (nI (wq (fitL (μ 55) N) b)) (fun ξ f1 f2 => by
      rw [ask57 (M := 600) rfl hL (by omega) hb f2, s2]
      dsimp only
      rw [if_neg (nI_pos (by omega)), if_neg (by decide)])
    exact ⟨nI (wq (fitL (μ 55) N) b), ν, ξ, by rw [if_neg (by decide), left_eq (L := fitL (μ 55) N) (by omega) hL hb (by rw [b2 10 (by decide)]; exact hf) (fun k x hx => by rw [b2 (10 + 1) (by decide)]; exact hc k x hx), b_some], x1, x2⟩
