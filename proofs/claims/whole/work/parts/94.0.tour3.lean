section TC3
variable {h G N : Nat} {dl : Nat → Nat}
theorem min_lt {a b : Nat} (ha : a < 2 ^ 31) (hb : b < 2 ^ 31) : (if nI b < nI a then nI b else nI a) = nI (min a b) := by
  by_cases q : b < a
  · rw [if_pos (nI_lt q ha), Nat.min_eq_right (by omega)]
  · rw [if_neg (nI_nlt (by omega) hb), Nat.min_eq_left (by omega)]
theorem home_eq {m : pm_M} (hdl : ∀ i, dl i ≤ 1000) (h46 : ∀ i, i < 49 → m 46 i = nI (dl i)) (hh : h < 7) {S : Nat} (hS : S < 128) {t : Nat → Nat} (hle : ∀ x, t x ≤ 1000) (h47 : ∀ x, x < 7 → m 47 (7 * S + x) = nI (t x)) : f_X5_leastHome (nI h) (nI S) m = some (nI (mnf 1000 (fun x => t x + dl (7 * x + h)) 7)) := by
  unfold f_X5_leastHome
  refine it_for (fun k => (nI (mnf 1000 (fun x => t x + dl (7 * x + h)) k), nI k)) 7 (fun k hk T => ?_) (fun T => ?_) 7 0 5000 (by omega) (by omega)
  · unfold f_X5_leastHome_b7
    dsimp only
    have l1 := hle k
    have l2 := hdl (7 * k + h)
    have l3 := mnf_a (a := 1000) (f := fun x => t x + dl (7 * x + h)) k
    rw [if_neg (show ¬ (7 : Int32) ≤ nI k from nI_ge (b := 7) hk (by omega)), ix7, ix7, ck_in (by omega) (by omega), ck_in (by omega) (by omega), nI_clamp (by omega), nI_clamp (by omega), show (if m 47 (7 * S + k) + m 46 (7 * k + h) < nI (mnf 1000 (fun x => t x + dl (7 * x + h)) k) then m 47 (7 * S + k) + m 46 (7 * k + h) else nI (mnf 1000 (fun x => t x + dl (7 * x + h)) k)) = nI (mnf 1000 (fun x => t x + dl (7 * x + h)) (k + 1)) by
      have e : m 47 (7 * S + k) + m 46 (7 * k + h) = nI (t k + dl (7 * k + h)) := by rw [h47 k hk, h46 _ (by omega), nI_add]
      simp only [e]
      exact min_lt (by omega) (by omega), let_eq, nI_1]
  · unfold f_X5_leastHome_b7
    dsimp only
    rw [if_pos (by decide)]
theorem tour46 (hN : N = 128) (hG : G < 128) (hGh : bt G h = false) (hdl : ∀ i, dl i ≤ 1000) {m0 m w : pm_M} (h46 : ∀ i, i < 49 → m0 46 i = nI (dl i)) {B : Nat} (hB : B < 128) (ht : tm m0 m h G dl N B 0 0) {E : pm_M → Option (Int32 × pm_M)} (Q : Option (Int32 × pm_M) → Prop) (hE : ∀ ν, tm m0 ν h G dl N (B + 1) 0 0 → Q (E ν)) : Q (pm_it (f_X5_tour_b46 (nI G) (nI B, w)) 5000 (0, m) E) := by
  refine it_wp (fun k s => ∃ (H : Nat) (m : pm_M), s = (nI H, m) ∧ H + k = 8 ∧ H ≤ 7 ∧ tm m0 m h G dl N B H 0) Q (fun s g => by obtain ⟨H, m, -, e1, e2, -⟩ := g; omega) (fun k s g T hT => ?_) 5000 8 _ (by omega) ⟨0, m, rfl, by omega, by omega, ht⟩
  obtain ⟨H, m, rfl, e1, e2, e3⟩ := g
  unfold f_X5_tour_b46
  dsimp only
  by_cases q : H = 7
  · subst q
    rw [if_pos (by decide)]
    exact hE m (tm_cg e3 (fun S l _ _ => cur_next))
  have hH : H < 7 := by omega
  have vBH : m 47 (7 * B + H) = nI (tht h G dl N B H) := by rw [e3.2 B H hB hH, cur_fin (by omega) (Nat.le_refl _)]
  have lT := tht_le (h := h) (G := G) (dl := dl) (N := N) (S := B) (l := H) (by omega)
  rw [if_neg (show ¬ (7 : Int32) ≤ nI H from nI_ge (b := 7) hH (by omega)), ix7, ck_in (by omega) (by omega), nI_clamp (by omega), jn_eq, nI_1]
  by_cases g : 1000 ≤ tht h G dl N B H
  · rw [if_pos (by rw [vBH, i1000]; exact nI_le g (by omega))]
    exact hT _ ⟨H + 1, m, rfl, by omega, by omega, tm_cg e3 (fun S l _ _ => cur_skip g)⟩
  · rw [if_neg (by rw [vBH, i1000]; exact nI_ge (by omega) (by omega))]
    obtain ⟨ν, f1, f2⟩ := len_eq2 hN hG hGh hdl h46 hB hH e3
    rw [f1, b_some]
    exact hT _ ⟨H + 1, ν, rfl, by omega, by omega, tm_cg f2 (fun S l _ hl => cur_7 hl)⟩
theorem tour36 (hN : N = 128) (hG : G < 128) (hGh : bt G h = false) (hdl : ∀ i, dl i ≤ 1000) {m0 m : pm_M} (h46 : ∀ i, i < 49 → m0 46 i = nI (dl i)) (ht : tm m0 m h G dl N 0 0 0) {E : pm_M → Option (Int32 × pm_M)} (Q : Option (Int32 × pm_M) → Prop) (hE : ∀ ν, tm m0 ν h G dl N 128 0 0 → Q (E ν)) : Q (pm_it (f_X5_tour_b36 (nI G)) 5000 (0, m) E) := by
  refine it_wp (fun k s => ∃ (B : Nat) (m : pm_M), s = (nI B, m) ∧ B + k = 129 ∧ B ≤ 128 ∧ tm m0 m h G dl N B 0 0) Q (fun s g => by obtain ⟨H, m, -, e1, e2, -⟩ := g; omega) (fun k s g T hT => ?_) 5000 129 _ (by omega) ⟨0, m, rfl, by omega, by omega, ht⟩
  obtain ⟨B, m, rfl, e1, e2, e3⟩ := g
  unfold f_X5_tour_b36
  dsimp only
  by_cases q : B = 128
  · subst q
    rw [if_pos (by decide)]
    exact hE m e3
  rw [if_neg (show ¬ (128 : Int32) ≤ nI B from nI_ge (b := 128) (by omega) (by omega)), nI_1]
  exact tour46 hN hG hGh hdl h46 (by omega) e3 Q (fun ν f => hT _ ⟨B + 1, ν, rfl, by omega, by omega, f⟩)
theorem tour_eq (hN : N = 128) (hh : h < 7) (hG : G < 128) (hGh : bt G h = false) (hdl : ∀ i, dl i ≤ 1000) {m : pm_M} (h46 : ∀ i, i < 49 → m 46 i = nI (dl i)) : ∃ ν, f_X5_tour (nI h) (nI G) m = some (if 1000 ≤ clsV h G dl N then -6 else nI (clsV h G dl N), ν) ∧ ∀ j, j ≠ 47 → ν j = m j := by
  have b5 := b_5 h hh
  have b3 := b_3 G hG h hh hGh
  unfold f_X5_tour
  rw [farm_in hh, b_some, if_neg (by decide), i1000, fill_eq (by omega), b_some, b5.1, ix7, ck_in (by omega) (by omega), nI_clamp (by omega), let_eq]
  refine tour36 (m0 := m) hN hG hGh hdl h46 ?_ (fun o => ∃ ν, o = some (if 1000 ≤ clsV h G dl N then -6 else nI (clsV h G dl N), ν) ∧ ∀ j, j ≠ 47 → ν j = m j) (fun ν f => ?_)
  · refine ⟨fun j hj => by rw [up_o hj, row_o hj], fun S l hS hl => ?_⟩
    rw [cur_0, up_r]
    by_cases q : S = 2 ^ h ∧ l = h
    · rw [if_pos q, q.1, q.2, upd_s]
      rfl
    · rw [if_neg q, upd_n (by omega), row_r, pre_lt (by omega)]
  · have hc : clsV h G dl N ≤ 1000 := mnf_a 7
    have e1 : nI G ||| nI (2 ^ h) = nI (G + 2 ^ h) := by rw [← b5.1]; exact b3.2.2.1
    have e2 : nI (G + 2 ^ h) &&& (127 : Int32) = nI (G + 2 ^ h) := by rw [pk_andN (by omega) 7 (by decide), Nat.mod_eq_of_lt (by omega)]
    have h47 : ∀ x, x < 7 → ν 47 (7 * (G + 2 ^ h) + x) = nI (tht h G dl N (G + 2 ^ h) x) := fun x hx => by rw [f.2 (G + 2 ^ h) x b3.1 hx, cur_fin (by omega) (by omega)]
    rw [e1, e2, home_eq hdl (fun i hi => by rw [f.1 46 (by decide)]; exact h46 i hi) hh b3.1 (fun x => tht_le (by omega)) h47, b_some]
    unfold f_X5_milesOrNone
    refine ⟨ν, ?_, f.1⟩
    show (if (1000 : Int32) ≤ nI (clsV h G dl N) then some (-6) else some (nI (clsV h G dl N))).bind (fun r7 => some (r7, ν)) = _
    by_cases q : 1000 ≤ clsV h G dl N
    · rw [if_pos (by rw [i1000]; exact nI_le q (by omega)), b_some, if_pos q]
    · rw [if_neg (by rw [i1000]; exact nI_ge (by omega) (by omega)), b_some, if_neg q]
end TC3
