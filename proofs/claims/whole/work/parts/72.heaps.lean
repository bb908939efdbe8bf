/-! HEAPS: the table of worths -/
def wlit : List Nat := [0, 0, 0, 1, 0, 2, 1, 0, 2, 1, 0, 2, 1, 3, 2, 1, 3, 2, 4, 3, 0, 4, 3, 0, 4, 3, 0, 4, 1, 2, 3, 1, 2, 4, 1, 2, 4, 1, 2, 4, 1, 5, 4, 1, 5, 4, 1, 5, 4, 1, 0, 2, 1, 0, 2, 1, 5, 2, 1, 3, 2]
theorem w_lit : worthL 61 = wlit := by decide +kernel
theorem wt_eq (n : Nat) : wtab n = wlit.getD n 0 := by unfold wtab; rw [w_lit]
/-- what comes, of a heap: by the lesser part -/
def cmf (h : Nat) : Nat → Nat → Nat
  | 0, _ => 0
  | l + 1, v => if 1 ≤ l ∧ v = wlit.getD l 0 ^^^ wlit.getD (h - l) 0 then 1 else cmf h l v
theorem cm_tab : ∀ h, h < 61 → (wlit.getD h 0 < 60 ∧ cmf h ((h + 1) / 2) (wlit.getD h 0) = 0 ∧ ∀ v, v < wlit.getD h 0 → cmf h ((h + 1) / 2) v = 1) ∧ ∀ l, l < (h + 1) / 2 → wlit.getD l 0 ^^^ wlit.getD (h - l) 0 < 64 ∧ nI (wlit.getD l 0) ^^^ nI (wlit.getD (h - l) 0) = nI (wlit.getD l 0 ^^^ wlit.getD (h - l) 0) := by decide +kernel
def μT : pm_M := fun _ k => nI (wlit.getD k 0)
theorem wl_tab : ∀ n, n < 61 → (f_X4_winningLess (nI n) μT = some (-6) ∧ wlit.getD n 0 = 0) ∨ (¬ f_X4_winningLess (nI n) μT = some (-6) ∧ ¬ f_X4_winningLess (nI n) μT = none ∧ ¬ wlit.getD n 0 = 0) := by decide +kernel
theorem ck_cg {τ : Type} {x : Int32} {n : Nat} {o o' : Option τ} (h : x.toNatClampNeg < n → o = o') : pm_ck x n o = pm_ck x n o' := by
  unfold pm_ck
  by_cases q : x < 0 ∨ n ≤ x.toNatClampNeg
  · rw [if_pos q, if_pos q]
  · rw [if_neg q, if_neg q]
    exact h (by omega)
theorem wl_cg {μ ν : pm_M} {p : Int32} (h : ∀ k, k < 61 → μ 49 k = ν 49 k) : f_X4_winningLess p μ = f_X4_winningLess p ν := by
  have e : f_X4_winningLess_b11 p μ = f_X4_winningLess_b11 p ν := by
    funext v T E
    unfold f_X4_winningLess_b11
    congr 1
    refine ck_cg (fun h1 => ck_cg (fun h2 => ?_))
    rw [h _ h1, h _ h2]
  unfold f_X4_winningLess
  rw [e]
theorem hp_it {n : Nat} {μ m : pm_M} (hn : n < 61) (h : ∀ k, k ≤ n → m 64 k = μ 49 k) : ∀ (F l : Nat), 1 ≤ l → l ≤ 61 → pm_it (f_X10_heaps_b48 (nI n) m) F (nI l) (fun _ => some (-6, m)) = (pm_it (f_X4_winningLess_b11 (nI n) μ) F (nI l) (fun _ => some (-6))).map (fun r => (r, m))
  | 0, _, _, _ => rfl
  | F + 1, l, hl, hl2 => by
    show f_X10_heaps_b48 (nI n) m (nI l) (fun v' => pm_it (f_X10_heaps_b48 (nI n) m) F v' (fun _ => some (-6, m))) (fun _ => some (-6, m)) = (f_X4_winningLess_b11 (nI n) μ (nI l) (fun v' => pm_it (f_X4_winningLess_b11 (nI n) μ) F v' (fun _ => some (-6))) (fun _ => some (-6))).map (fun r => (r, m))
    unfold f_X10_heaps_b48 f_X4_winningLess_b11
    rw [show (2 : Int32) * nI l = nI (2 * l) from pk_mul 2 l]
    by_cases q : n ≤ 2 * l
    · rw [if_pos (nI_le q (by omega)), if_pos (nI_le q (by omega))]; rfl
    rw [if_neg (nI_ge (by omega) (by omega)), if_neg (nI_ge (by omega) (by omega)), show nI n - nI l = nI (n - l) from pk_sub (by omega), ck_in (show l < 61 by omega) (by omega), ck_in (show n - l < 61 by omega) (by omega), ck_in (show l < 61 by omega) (by omega), ck_in (show n - l < 61 by omega) (by omega), nI_clamp (by omega), nI_clamp (by omega), h _ (by omega), h _ (by omega)]
    by_cases q3 : μ 49 l = μ 49 (n - l)
    · rw [if_pos q3, if_pos q3]; rfl
    · rw [if_neg q3, if_neg q3, nI_1]; exact hp_it hn h F (l + 1) (by omega) (by omega)
/-- the model's table -/
def frH (μ ν : pm_M) : Prop := ∀ j, j ≠ 64 → j ≠ 65 → ν j = μ j
theorem lw9 {m : pm_M} {E : pm_M → Option pm_M} : pm_it f_X10_layWorth_b9 5000 (0, m) E = E (pm_row m 65 (pre 64 (fun _ => 0) (m 65))) := by
  refine it_for (fun k => (nI k, pm_row m 65 (pre k (fun _ => 0) (m 65)))) 64 (fun k hk T => ?_) (fun T => ?_) 64 0 5000 (by omega) (by omega) |> fun h => (by rw [pre_0, row_id] at h; exact h)
  · show (if (64 : Int32) ≤ nI k then _ else _) = _
    rw [if_neg (show ¬ (64 : Int32) ≤ nI k from nI_ge (b := 64) hk (by omega))]
    dsimp only
    rw [ck_in hk (by omega), nI_clamp (by omega), let_eq, up_row, pre_s k (fun _ => 0), nI_1]
  · rfl
theorem lw30 {m : pm_M} {h : Nat} {w : pm_M} (hh : h < 61) (h64 : ∀ k, k < h → m 64 k = nI (wlit.getD k 0)) (h65 : ∀ v, v < 64 → m 65 v = 0) {E : pm_M → Option pm_M} (Q : Option pm_M → Prop) (hE : ∀ ν, (∀ j, j ≠ 65 → ν j = m j) → (∀ v, v < 64 → ν 65 v = nI (cmf h ((h + 1) / 2) v)) → Q (E ν)) : Q (pm_it (f_X10_layWorth_b30 (nI h, w)) 5000 (1, m) E) := by
  refine it_wp (fun k s => ∃ l ν, s = (nI l, ν) ∧ 1 ≤ l ∧ l + k = (h + 1) / 2 + 2 ∧ (l ≤ (h + 1) / 2 ∨ h = 0) ∧ l ≤ (h + 1) / 2 + 1 ∧ (∀ j, j ≠ 65 → ν j = m j) ∧ (∀ v, v < 64 → ν 65 v = nI (cmf h l v))) Q (fun s g => by obtain ⟨l, ν, -, e1, e2, e3, e4, -⟩ := g; omega) (fun k s g T hT => ?_) 5000 ((h + 1) / 2 + 1) _ (by omega) ⟨1, m, rfl, by omega, by omega, by omega, by omega, fun _ _ => rfl, fun v hv => by rw [h65 v hv]; rfl⟩
  obtain ⟨l, ν, rfl, e1, e2, e3, e4, e5, e6⟩ := g
  unfold f_X10_layWorth_b30
  dsimp only
  rw [show (2 : Int32) * nI l = nI (2 * l) from pk_mul 2 l]
  by_cases q : h ≤ 2 * l
  · rw [if_pos (nI_le q (by omega))]
    refine hE ν e5 (fun v hv => ?_)
    rcases e3 with z | z
    · rw [e6 v hv, show l = (h + 1) / 2 by omega]
    · have : l = 1 := by omega
      rw [e6 v hv, this, z]
      rfl
  have hx := (cm_tab h hh).2 l (by omega)
  rw [if_neg (nI_ge (by omega) (by omega)), ck_in (show l < 61 by omega) (by omega), show nI h - nI l = nI (h - l) from pk_sub (by omega), ck_in (show h - l < 61 by omega) (by omega), nI_clamp (by omega), nI_clamp (by omega), e5 64 (by decide), h64 l (by omega), h64 (h - l) (by omega), hx.2, ck_in hx.1 (by omega), nI_clamp (by omega), let_eq, nI_1]
  refine hT _ ⟨l + 1, _, rfl, by omega, by omega, by omega, by omega, fun j hj => by rw [up_o hj]; exact e5 j hj, fun v hv => ?_⟩
  rw [up_r]
  show _ = nI (if 1 ≤ l ∧ v = wlit.getD l 0 ^^^ wlit.getD (h - l) 0 then 1 else cmf h l v)
  by_cases g : v = wlit.getD l 0 ^^^ wlit.getD (h - l) 0
  · rw [g, upd_s, if_pos ⟨e1, rfl⟩]; rfl
  · rw [upd_n g, if_neg (fun z => g z.2)]; exact e6 v hv
theorem lw66 {m : pm_M} {h : Nat} (hh : h < 61) (h65 : ∀ v, v < 64 → m 65 v = nI (cmf h ((h + 1) / 2) v)) {E : Int32 → Option pm_M} : pm_it (f_X10_layWorth_b66 m) 5000 0 E = E (nI (wlit.getD h 0)) := by
  obtain ⟨⟨a1, a2, a3⟩, -⟩ := cm_tab h hh
  refine it_for (fun k => nI k) (wlit.getD h 0) (fun k hk T => ?_) (fun T => ?_) (wlit.getD h 0) 0 5000 (by omega) (by omega)
  · unfold f_X10_layWorth_b66
    rw [ck_in (show k < 64 by omega) (by omega), nI_clamp (by omega), h65 k (by omega), a3 k hk, if_neg (by decide), nI_1]
  · unfold f_X10_layWorth_b66
    rw [ck_in (show _ < 64 by omega) (by omega), nI_clamp (by omega), h65 _ (by omega), a2, if_pos (show nI 0 = 0 from rfl)]
theorem lay_w {μ : pm_M} {n : Nat} (hn : n < 61) : ∃ ν, f_X10_layWorth (nI n) μ = some ν ∧ frH μ ν ∧ ∀ k, k ≤ n → ν 64 k = nI (wlit.getD k 0) := by
  unfold f_X10_layWorth
  refine it_wp (fun k s => ∃ h m, s = (nI h, m) ∧ h + k = n + 2 ∧ h ≤ n + 1 ∧ frH μ m ∧ ∀ k, k < h → m 64 k = nI (wlit.getD k 0)) (fun o => ∃ ν, o = some ν ∧ frH μ ν ∧ ∀ k, k ≤ n → ν 64 k = nI (wlit.getD k 0)) (fun s g => by obtain ⟨h, m, -, e1, e2, -⟩ := g; omega) (fun k s g T hT => ?_) 5000 (n + 2) _ (by omega) ⟨0, μ, rfl, by omega, by omega, fun _ _ _ => rfl, fun k hk => by omega⟩
  obtain ⟨h, m, rfl, e1, e2, e3, e4⟩ := g
  unfold f_X10_layWorth_b2
  dsimp only
  by_cases q : n < h
  · rw [if_pos (nI_lt q (by omega))]
    exact ⟨m, rfl, e3, fun k hk => e4 k (by omega)⟩
  rw [if_neg (nI_nlt (by omega) (by omega)), lw9]
  refine lw30 (h := h) (by omega) (fun k hk => by rw [row_o (by decide)]; exact e4 k hk) (fun v hv => by rw [row_r, pre_lt hv]) (fun o => ∃ ν, o = some ν ∧ frH μ ν ∧ ∀ k, k ≤ n → ν 64 k = nI (wlit.getD k 0)) (fun ν f1 f2 => ?_)
  rw [lw66 (h := h) (by omega) f2, ck_in (show h < 61 by omega) (by omega), nI_clamp (by omega), let_eq, nI_1]
  refine hT _ ⟨h + 1, _, rfl, by omega, by omega, fun j a b => ?_, fun k hk => ?_⟩
  · rw [up_o a, f1 j b, row_o b]
    exact e3 j a b
  · rw [up_r]
    by_cases z : k = h
    · rw [z, upd_s]
    · rw [upd_n z, f1 64 (by decide), row_o (by decide)]
      exact e4 k (by omega)
theorem frH.fr0 {μ ν : pm_M} (h : frH μ ν) : fr0 μ ν := ⟨fun j a b => h j (fun q => by rw [q] at a; cases a) (fun q => by rw [q] at a; cases a), by rw [h 50 (by decide) (by decide)], by rw [h 50 (by decide) (by decide)]⟩
theorem okheaps : ok_heaps Rel := by
  intro p1 p2 μ hR
  have h6 : ∀ k, k < 61 → μ 49 k = μT 49 k := fun k hk => by rw [hR.2.2.2.2.2 k (by omega), wt_eq]; rfl
  unfold f_X9_heaps f_X10_heaps
  rcases in_or p1 (n := 61) (by omega) with h | ⟨n, hn, rfl⟩
  · refine ⟨-2, μ, ?_, ?_, hR⟩
    · rcases h with h | h
      · rw [if_pos h]
      · rw [if_neg (not_both h (by omega)), if_pos (Int32.lt_of_lt_of_le (show (60 : Int32) < nI 61 by decide) h)]
    · rcases h with h | h
      · rw [x10_in_lo h, b_some, if_pos rfl]
      · rw [x10_in_hi (Int32.lt_of_lt_of_le (show (60 : Int32) < nI 61 by decide) h), b_some, if_pos rfl]
  have m60 : f_X10_in (nI n) 0 60 = some 1 := x10_in_in (nI_pos' (by omega)) (nI_le (b := 60) (by omega) (by omega))
  rw [if_neg (nI_pos (by omega)), if_neg (show ¬ (60 : Int32) < nI _ from Int32.not_lt.mpr (nI_le (b := 60) (by omega) (by omega))), m60, b_some, if_neg (by decide)]
  rcases in_or p2 (n := 2) (by omega) with h | ⟨p, hp, rfl⟩
  · exact ⟨-2, μ, by rw [zo_out h, b_some, if_pos rfl], by rw [zi_out h, b_some, if_pos rfl], hR⟩
  rw [zo_in hp, b_some, if_neg (by decide), zi_in hp, b_some, if_neg (by decide)]
  obtain ⟨ν, l1, l2, l3⟩ := lay_w (μ := μ) hn
  rw [l1, b_some, wl_cg h6]
  have hRel : Rel ν := Rel_fr l2.fr0 hR
  have hw := wl_tab n hn
  rcases (show p = 0 ∨ p = 1 by omega) with rfl | rfl
  · rw [if_pos (show nI 0 = 0 from rfl), ck_in (by omega) (by omega), nI_clamp (by omega), l3 n (Nat.le_refl _)]
    rcases hw with ⟨a, b⟩ | ⟨a, b, c⟩
    · refine ⟨0, ν, ?_, ?_, hRel⟩
      · rw [a, b_some, if_neg (by decide), if_pos rfl]
      · rw [b, if_pos (by decide)]
    · cases e : f_X4_winningLess (nI n) μT with
      | none => exact absurd e b
      | some r =>
        rw [e] at a
        refine ⟨1, ν, ?_, ?_, hRel⟩
        · rw [b_some, if_neg (by decide), if_neg (fun z => a (by rw [z]))]
        · rw [if_neg (nI_nle (by omega) (by have := (cm_tab n hn).1.1; omega))]
  · rw [if_neg (show ¬ nI 1 = 0 by decide)]
    have hsome : ∃ r, f_X4_winningLess (nI n) μT = some r := by
      cases e : f_X4_winningLess (nI n) μT with
      | none => rcases hw with ⟨a, b⟩ | ⟨a, b, c⟩
                · rw [e] at a; cases a
                · exact absurd e b
      | some r => exact ⟨r, rfl⟩
    obtain ⟨r, er⟩ := hsome
    refine ⟨r, ν, by rw [er, b_some, if_pos (show nI 1 = 1 from rfl)], ?_, hRel⟩
    have hx := hp_it (μ := μT) (m := ν) hn (fun k hk => l3 k hk) 5000 1 (by omega) (by omega)
    unfold f_X4_winningLess at er
    rw [if_pos (show nI _ ≤ (60 : Int32) from nI_le (b := 60) (by omega) (by omega))] at er
    exact hx.trans (by rw [show (nI 1 : Int32) = 1 from rfl, er]; rfl)
