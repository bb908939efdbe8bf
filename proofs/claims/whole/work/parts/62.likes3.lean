theorem lrk_o {x k b j : Nat} {m : pm_M} (h : j ≠ b) : ∀ n, lrk x k m b n j = m j
  | 0 => rfl
  | n + 1 => by unfold lrk; rw [up_o h]; exact lrk_o h n
theorem lrw_o {x k b j : Nat} {m : pm_M} (h : j ≠ b) : ∀ n, lrw x k m b n j = m j
  | 0 => rfl
  | n + 1 => by unfold lrw; rw [up_o h]; exact lrw_o h n
theorem lrk_ne {x k b j : Nat} {m : pm_M} (hd : ∀ i, i < 4 → ddg k i < 4) (h : j < x ∨ x + 4 ≤ j) : ∀ n, n ≤ 4 → lrk x k m b n b j = m b j
  | 0, _ => rfl
  | n + 1, hn => by
    have := hd n (by omega)
    unfold lrk
    rw [up_r, upd_n (by omega)]
    exact lrk_ne hd h n (by omega)
theorem lrw_ne {x k b j : Nat} {m : pm_M} (h : j < x ∨ x + 4 ≤ j) : ∀ n, n ≤ 4 → lrw x k m b n b j = m b j
  | 0, _ => rfl
  | n + 1, hn => by
    unfold lrw
    rw [up_r, upd_n (by omega)]
    exact lrw_ne h n (by omega)
theorem lrk_at {x k b i : Nat} {m : pm_M} (hd : ∀ i j, i < 4 → j < 4 → ddg k i = ddg k j → i = j) : ∀ n, n ≤ 4 → i < n → lrk x k m b n b (x + ddg k i) = nI (3 - i)
  | 0, _, h => by omega
  | n + 1, hn, h => by
    unfold lrk
    rw [up_r]
    by_cases q : i = n
    · subst q; rw [upd_s]
    · rw [upd_n (fun z => q (hd i n (by omega) (by omega) (by omega)))]
      exact lrk_at hd n (by omega) (by omega)
theorem lrw_at {x k b i : Nat} {m : pm_M} : ∀ n, n ≤ 4 → i < n → lrw x k m b n b (x + (3 - i)) = nI (ddg k i)
  | 0, _, h => by omega
  | n + 1, hn, h => by
    unfold lrw
    rw [up_r]
    by_cases q : i = n
    · subst q; rw [upd_s]
    · rw [upd_n (by omega)]
      exact lrw_at n (by omega) (by omega)
theorem dg_sum {k : Nat} (h : k < 10000) : 1000 * ddg k (3 - 0) + 100 * ddg k (3 - 1) + 10 * ddg k (3 - 2) + ddg k (3 - 3) = k := by
  show 1000 * (k / 1000 % 10) + 100 * (k / 100 % 10) + 10 * (k / 10 % 10) + k / 1 % 10 = k
  omega
theorem likes_R2 {μ ξ : pm_M} {s o k : Nat} (hR : R2 μ) (hs : s < 2) (ho : o < 4) (hk : isR k = true) (h8 : ξ 8 = upd (μ 8) (4 * s + o) (nI k)) (h9 : ξ 9 = lrk (16 * s + 4 * o) k μ 9 4 9) (h54 : ξ 54 = lrw (16 * s + 4 * o) k μ 54 4 54) : R2 ξ := by
  obtain ⟨h0, h1, h2⟩ := isR_dg hk
  intro s' o' hs' ho'
  by_cases q : s' = s ∧ o' = o
  · obtain ⟨rfl, rfl⟩ := q
    refine ⟨fun j => ddg k (3 - j), fun j hj => ⟨h1 _ (by omega), ?_, ?_⟩, fun a c ha hc z => ?_, ?_⟩
    · have := lrw_at (x := 16 * s' + 4 * o') (k := k) (b := 54) (i := 3 - j) (m := μ) 4 (by omega) (by omega)
      rw [show 3 - (3 - j) = j by omega] at this
      rw [h54]; exact this
    · have := lrk_at (x := 16 * s' + 4 * o') (k := k) (b := 9) (i := 3 - j) (m := μ) h2 4 (by omega) (by omega)
      rw [show 3 - (3 - j) = j by omega] at this
      rw [h9]; exact this
    · have := h2 _ _ (by omega) (by omega) z
      omega
    · rw [h8, upd_s, dg_sum h0]
  · obtain ⟨d, d1, d2, d3⟩ := hR s' o' hs' ho'
    have hne : 4 * s' + o' ≠ 4 * s + o := by omega
    refine ⟨d, fun j hj => ⟨(d1 j hj).1, ?_, ?_⟩, d2, ?_⟩
    · rw [h54, lrw_ne (by omega) 4 (by omega)]; exact (d1 j hj).2.1
    · have := (d1 j hj).1
      rw [h9, lrk_ne h1 (by omega) 4 (by omega)]; exact (d1 j hj).2.2
    · rw [h8, upd_n hne]; exact d3
