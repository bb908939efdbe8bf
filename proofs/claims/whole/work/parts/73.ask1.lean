/-! ASK: first the class's tallies -/
theorem fill_eq {j n : Nat} {v : Int32} {μ : pm_M} (hn : n < 5000) : f_J7_fill_53178 j n v μ = some (pm_row μ j (pre n (fun _ => v) (μ j))) := by
  unfold f_J7_fill_53178
  rw [let_eq]
  refine it_for (fun k => (nI k, pm_row μ j (pre k (fun _ => v) (μ j)))) n (fun k hk T => ?_) (fun T => ?_) n 0 5000 (by omega) (by omega) |> fun h => (by rw [pre_0, row_id] at h; exact h)
  · show (if nI n ≤ nI k then _ else _) = _
    rw [if_neg (nI_ge hk (by omega))]
    dsimp only
    rw [ck_in hk (by omega), nI_clamp (by omega), let_eq, up_row, pre_s k (fun _ => v), nI_1]
  · show (if nI n ≤ nI n then _ else _) = _
    rw [if_pos (nI_le (Nat.le_refl _) (by omega))]
def pref (s : Nat → Int32) : Nat → Int32
  | 0 => 0
  | n + 1 => pref s n + s n
theorem pref_up (s : Nat → Int32) (a : Nat) (e : Int32) : ∀ n, pref (upd s a (s a + e)) n = pref s n + (if a < n then e else 0)
  | 0 => by rw [if_neg (by omega), Int32.add_zero]; rfl
  | n + 1 => by
    show pref (upd s a (s a + e)) n + upd s a (s a + e) n = pref s n + s n + _
    rw [pref_up s a e n]
    by_cases h : n = a
    · subst h
      rw [upd_s, if_neg (by omega), if_pos (by omega), Int32.add_zero, Int32.add_assoc]
    · rw [upd_n h]
      by_cases g : a < n
      · rw [if_pos g, if_pos (by omega), Int32.add_assoc, Int32.add_assoc, Int32.add_comm e]
      · rw [if_neg g, if_neg (by omega), Int32.add_zero, Int32.add_zero]
theorem pref_0 : ∀ n, pref (fun _ => 0) n = 0
  | 0 => rfl
  | n + 1 => by show pref (fun _ => 0) n + 0 = 0; rw [pref_0 n]; rfl
theorem pref_cg {s t : Nat → Int32} : ∀ n, (∀ k, k < n → s k = t k) → pref s n = pref t n
  | 0, _ => rfl
  | n + 1, h => by show pref s n + s n = pref t n + t n; rw [pref_cg n (fun k hk => h k (by omega)), h n (by omega)]
def cdn (L : List Nat) (d p : Nat) : Nat := ct (fun c => downB c d p) L L.length
theorem tally_eq {μ : pm_M} {L : List Nat} {d : Nat} (hL : L.length ≤ 410) (hb : ∀ x, x ∈ L → x < 410) (hd : d ≤ 5) (h2 : μ 10 2 = nI L.length) (hc : ∀ k x, L[k]? = some x → μ (10 + 1) k = nI x) : ∃ ν, f_X6_tally 10 (nI d) μ = some ν ∧ (∀ j, j ≠ 12 → ν j = μ j) ∧ ∀ p, p ≤ 99 → pref (ν (10 + 2)) (p + 1) = nI (cdn L d p) := by
  unfold f_X6_tally
  rw [fill_eq (by omega), b_some]
  refine it_wp (fun k s => ∃ (i : Nat) (m : pm_M), s = (nI i, m) ∧ i + k = L.length + 1 ∧ i ≤ L.length ∧ (∀ j, j ≠ 12 → m j = μ j) ∧ ∀ p, p ≤ 99 → pref (m (10 + 2)) (p + 1) = nI (ct (fun c => downB c d p) L i)) (fun o => ∃ ν : pm_M, o = some ν ∧ (∀ j, j ≠ 12 → ν j = μ j) ∧ ∀ p, p ≤ 99 → pref (ν (10 + 2)) (p + 1) = nI (cdn L d p)) (fun s h => by obtain ⟨i, m, -, e1, e2, -⟩ := h; omega) (fun k s h T hT => ?_) 5000 (L.length + 1) _ (by omega) ⟨0, _, rfl, by omega, by omega, fun j hj => by rw [row_o hj], fun p hp => ?_⟩
  · obtain ⟨i, m, rfl, e1, e2, e3, e4⟩ := h
    have h2' : m 10 2 = nI L.length := by rw [e3 10 (by decide)]; exact h2
    unfold f_X6_tally_b10
    dsimp only
    by_cases q : i = L.length
    · rw [if_pos (show m 10 2 ≤ nI i by rw [h2', q]; exact nI_le (Nat.le_refl _) (by omega))]
      exact ⟨m, rfl, e3, fun p hp => by rw [e4 p hp, q]; rfl⟩
    have hi : i < L.length := by omega
    have hg : L[i]? = some L[i] := List.getElem?_eq_getElem hi
    generalize L[i] = x at hg
    have hx : x < 410 := hb x (List.mem_of_getElem? hg)
    have hm := dmul (c := x) hd
    rw [if_neg (show ¬ m 10 2 ≤ nI i by rw [h2']; exact nI_ge hi (by omega)), ck_in (show i < 410 by omega) (by omega), let_eq, ck_in (show i < 410 by omega) (by omega), nI_clamp (by omega), e3 (10 + 1) (by decide), hc i x hg]
    unfold f_X6_lastDown
    rw [t10 (by omega), tr10 (by omega), pk_mul, nI_add, b_some, nI_1, let_eq, jn_eq, if_neg (nI_pos (by omega)), if_neg (show ¬ (100 : Int32) < nI _ from Int32.not_lt.mpr (nI_le (b := 100) (by omega) (by omega))), if_neg (nI_pos (by omega)), if_neg (show ¬ (100 : Int32) < nI _ from Int32.not_lt.mpr (nI_le (b := 100) (by omega) (by omega))), ck_in (by omega) (by omega), ck_in (by omega) (by omega), nI_clamp (by omega), let_eq, ck_in (by omega) (by omega), ck_in (by omega) (by omega), nI_clamp (by omega), let_eq]
    dsimp only
    rw [nI_1]
    refine hT _ ⟨i + 1, _, rfl, by omega, by omega, fun j hj => by rw [up_o hj, up_o hj]; exact e3 j hj, fun p hp => ?_⟩
    rw [up_r, up_r, Int32.sub_eq_add_neg, pref_up, pref_up, e4 p hp, ct_s hg]
    by_cases g : x / 10 ≤ p
    · rw [if_pos (show x / 10 < p + 1 by omega), nI_1]
      by_cases g2 : p ≤ x / 10 + d * (x % 10)
      · rw [if_neg (show ¬ x / 10 + d * (x % 10) + 1 < p + 1 by omega), if_pos (downB_iff.mpr ⟨g, g2⟩), Int32.add_zero]
      · rw [if_pos (show x / 10 + d * (x % 10) + 1 < p + 1 by omega), if_neg (fun z => g2 (downB_iff.mp z).2), pk_m1, Nat.add_zero]
    · rw [if_neg (show ¬ x / 10 < p + 1 by omega), if_neg (show ¬ x / 10 + d * (x % 10) + 1 < p + 1 by omega), if_neg (fun z => g (downB_iff.mp z).1), Int32.add_zero, Int32.add_zero, Nat.add_zero]
  · rw [row_r, pref_cg (t := fun _ => 0) (p + 1) (fun k hk => pre_lt (by omega)), pref_0]
    rfl
