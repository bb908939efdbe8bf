/-! the rows of least miles in both memories -/
def RW (m : pm_M) (j : Nat) (g : Nat → Nat) : pm_M := pm_row m j (pre 49 (fun i => nI (g i)) (m j))
theorem RW_at {m : pm_M} {j i : Nat} {g : Nat → Nat} (h : i < 49) : RW m j g j i = nI (g i) := by
  unfold RW
  rw [row_r, pre_lt h]
theorem RW_o {m : pm_M} {j a : Nat} {g : Nat → Nat} (h : a ≠ j) : RW m j g a = m a := row_o h
theorem RW_cg {m : pm_M} {j : Nat} {g g' : Nat → Nat} (h : ∀ i, i < 49 → g i = g' i) : RW m j g = RW m j g' := by
  unfold RW
  congr 1
  funext i
  unfold pre
  by_cases q : i < 49
  · rw [if_pos q, if_pos q]
    show nI (g i) = nI (g' i)
    rw [h i q]
  · rw [if_neg q, if_neg q]
theorem RW_up {m : pm_M} {j k : Nat} {g g' : Nat → Nat} (hk : k < 49) (h : ∀ i, i < 49 → i ≠ k → g' i = g i) : pm_up (RW m j g) j k (nI (g' k)) = RW m j g' := by
  unfold RW
  rw [up_row]
  congr 1
  funext i
  by_cases q : i = k
  · subst q
    rw [upd_s, pre_lt hk]
  · rw [upd_n q]
    unfold pre
    by_cases z : i < 49
    · rw [if_pos z, if_pos z]
      show nI (g i) = nI (g' i)
      rw [h i z q]
    · rw [if_neg z, if_neg z]
def mix (g : Nat → Nat) (m k i : Nat) : Nat := if i < k then aps g m i else g i
theorem mix_col {g : Nat → Nat} {m k a : Nat} (hg : g (7 * m + m) = 0) (hm : m < 7) (ha : a < 7) : mix g m k (7 * a + m) = g (7 * a + m) := by
  unfold mix
  split
  · exact aps_col hg hm ha
  · rfl
theorem mix_row {g : Nat → Nat} {m k b : Nat} (hg : g (7 * m + m) = 0) (hm : m < 7) (hb : b < 7) : mix g m k (7 * m + b) = g (7 * m + b) := by
  unfold mix
  split
  · exact aps_row hg hm hb
  · rfl
theorem mix_k {g : Nat → Nat} {m k : Nat} : mix g m k k = g k := if_neg (by omega)
theorem mix_s {g : Nat → Nat} {m k : Nat} : mix g m (k + 1) k = aps g m k := if_pos (by omega)
theorem mix_n {g : Nat → Nat} {m k i : Nat} (h : i ≠ k) : mix g m (k + 1) i = mix g m k i := by
  unfold mix
  by_cases q : i < k
  · rw [if_pos q, if_pos (by omega)]
  · rw [if_neg q, if_neg (by omega)]
theorem mix_0 {g : Nat → Nat} {m i : Nat} : mix g m 0 i = g i := if_neg (by omega)
theorem mix_49 {g : Nat → Nat} {m i : Nat} (h : i < 49) : mix g m 49 i = aps g m i := if_pos h
theorem min_I {a b : Nat} (ha : a < 2 ^ 31) (hb : b < 2 ^ 31) : (if nI a ≤ nI b then nI a else nI b) = nI (min a b) := by
  by_cases q : a ≤ b
  · rw [if_pos (nI_le q hb), Nat.min_eq_left q]
  · rw [if_neg (nI_ge (by omega) ha), Nat.min_eq_right (by omega)]
section WY
variable {m w : pm_M} {g : Nat → Nat} {v : Nat}
theorem ap65 (hg : g (7 * v + v) = 0) (hl : ∀ i, g i ≤ 1000000) (hv : v < 7) {E : pm_M → Option pm_M} : pm_it (f_X10_layApart_b65 (nI v, w)) 5000 (0, RW m 58 g) E = E (RW m 58 (aps g v)) := by
  refine it_for (fun k => (nI k, RW m 58 (mix g v k))) 49 (fun k hk T => ?_) (fun T => ?_) 49 0 5000 (by omega) (by omega) |> fun h => (by rw [RW_cg (g := mix g v 0) (g' := g) (fun i _ => mix_0)] at h; exact h)
  · unfold f_X10_layApart_b65
    dsimp only
    have l1 := hl k
    have l2 := hl (7 * (k / 7) + v)
    have l3 := hl (7 * v + k % 7)
    rw [if_neg (show ¬ (49 : Int32) ≤ nI k from nI_ge (b := 49) hk (by omega)), d7 (by omega), show nI (k / 7) * (7 : Int32) = nI (k / 7 * 7) from pk_mul _ 7, nI_add, let_eq, show k / 7 * 7 + v = 7 * (k / 7) + v by omega, ck_in (by omega) (by omega), r7 (by omega), ix7, let_eq, ck_in (by omega) (by omega), nI_clamp (by omega), nI_clamp (by omega), RW_at (by omega), RW_at (by omega), mix_col hg hv (by omega), mix_row hg hv (by omega), nI_add, let_eq, ck_in hk (by omega), jn_eq, ck_in hk (by omega), nI_clamp (by omega)]
    have eq0 : RW m 58 (mix g v k) 58 k = nI (g k) := by rw [RW_at hk, mix_k]
    have key : ∀ x, x = nI (aps g v k) → pm_ck (nI k) 49 (pm_let (pm_up (RW m 58 (mix g v k)) 58 k x) (fun m7 => T (nI k + 1, m7))) = T (nI (k + 1), RW m 58 (mix g v (k + 1))) := fun x hx => by
      rw [ck_in hk (by omega), let_eq, nI_1, hx, ← mix_s, RW_up hk (fun i _ hne => mix_n hne)]
    by_cases q : g k ≤ g (7 * (k / 7) + v) + g (7 * v + k % 7)
    · rw [if_pos (by rw [eq0]; exact nI_le q (by omega))]
      exact key _ (by rw [eq0]; unfold aps; rw [Nat.min_eq_left q])
    · rw [if_neg (by rw [eq0]; exact nI_ge (by omega) (by omega))]
      exact key _ (by unfold aps; rw [Nat.min_eq_right (by omega)])
  · unfold f_X10_layApart_b65
    dsimp only
    rw [if_pos (by decide), RW_cg (g := mix g v 49) (g' := aps g v) (fun i hi => mix_49 hi)]
theorem sh10 (hg : g (7 * v + v) = 0) (hl : ∀ i, g i ≤ 1000) (hv : v < 7) {a : Nat} (ha : a < 7) {E : pm_M → Option pm_M} : pm_it (f_X5_shortenBy_b10 (nI v) (nI a, w)) 5000 (0, RW m 46 (mix g v (7 * a))) E = E (RW m 46 (mix g v (7 * (a + 1)))) := by
  refine it_for (fun k => (nI k, RW m 46 (mix g v (7 * a + k)))) 7 (fun k hk T => ?_) (fun T => ?_) 7 0 5000 (by omega) (by omega)
  · unfold f_X5_shortenBy_b10
    dsimp only
    have l1 := hl (7 * a + k)
    have l2 := hl (7 * a + v)
    have l3 := hl (7 * v + k)
    rw [if_neg (show ¬ (7 : Int32) ≤ nI k from nI_ge (b := 7) hk (by omega)), ix7, ix7, ix7, ck_in (by omega) (by omega), ck_in (by omega) (by omega), nI_clamp (by omega), nI_clamp (by omega), nI_clamp (by omega), RW_at (show 7 * a + v < 49 by omega), RW_at (show 7 * v + k < 49 by omega), mix_col hg hv ha, mix_row hg hv hk, nI_add, let_eq, ck_in (by omega) (by omega), jn_eq, nI_1]
    have eq0 : RW m 46 (mix g v (7 * a + k)) 46 (7 * a + k) = nI (g (7 * a + k)) := by rw [RW_at (by omega), mix_k]
    have ea := aps_at (g := g) (m := v) (a := a) hk
    by_cases q : g (7 * a + k) ≤ g (7 * a + v) + g (7 * v + k)
    · rw [if_pos (by rw [eq0]; exact nI_le q (by omega)), RW_cg (g := mix g v (7 * a + k)) (g' := mix g v (7 * a + (k + 1)))]
      intro i hi
      by_cases z : i = 7 * a + k
      · subst z
        rw [mix_k, ← Nat.add_assoc, mix_s, ea, Nat.min_eq_left q]
      · exact (mix_n z).symm
    · rw [if_neg (by rw [eq0]; exact nI_ge (by omega) (by omega)), ck_in (by omega) (by omega), let_eq, show g (7 * a + v) + g (7 * v + k) = mix g v (7 * a + k + 1) (7 * a + k) by rw [mix_s, ea, Nat.min_eq_right (by omega)], RW_up (by omega) (fun i _ hne => mix_n hne)]
      rfl
  · unfold f_X5_shortenBy_b10
    dsimp only
    rw [if_pos (by decide), show 7 * (a + 1) = 7 * a + 7 by omega]
theorem sh_eq (hg : g (7 * v + v) = 0) (hl : ∀ i, g i ≤ 1000) (hv : v < 7) : f_X5_shortenBy (nI v) (RW m 46 g) = some (RW m 46 (aps g v)) := by
  unfold f_X5_shortenBy
  refine it_for (fun a => (nI a, RW m 46 (mix g v (7 * a)))) 7 (fun a ha T => ?_) (fun T => ?_) 7 0 5000 (by omega) (by omega) |> fun h => (by rw [RW_cg (g := mix g v (7 * 0)) (g' := g) (fun i _ => mix_0)] at h; exact h)
  · unfold f_X5_shortenBy_b2
    dsimp only
    rw [if_neg (show ¬ (7 : Int32) ≤ nI a from nI_ge (b := 7) ha (by omega)), sh10 hg hl hv ha, nI_1]
  · unfold f_X5_shortenBy_b2
    dsimp only
    rw [if_pos (by decide), RW_cg (g := mix g v (7 * 7)) (g' := aps g v) (fun i hi => mix_49 hi)]
end WY
