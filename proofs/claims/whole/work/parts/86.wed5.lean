section WD5
variable {μ : pm_M} {rk : Nat → Nat → Nat → Nat} {c s : Nat}
def mlB : Option (Nat × Nat) → Int32
  | none => 1000000
  | some (_, l) => nI l
theorem lay141 {x A y u B : Int32} {z w m : pm_M} (hlt : ¬ A ≤ B) {E : pm_M → Option (Int32 × pm_M)} : pm_it (f_X10_laySteady_b141 (x, A, y, z) (u, B, w)) 5000 (0, m) E = E (pm_row m 62 (pre 4 (m 60) (m 62))) := by
  refine it_for (fun j => (nI j, pm_row m 62 (pre j (m 60) (m 62)))) 4 (fun j hj T => ?_) (fun T => ?_) 4 0 5000 (by omega) (by omega) |> fun h => (by rw [pre_0, row_id] at h; exact h)
  · show (if (4 : Int32) ≤ nI j then _ else _) = _
    rw [if_neg (show ¬ (4 : Int32) ≤ nI j from nI_ge (b := 4) hj (by omega)), if_neg hlt]
    dsimp only
    rw [ck_in hj (by omega), ck_in hj (by omega), nI_clamp (by omega), let_eq, row_o (show 60 ≠ 62 by decide), up_row, pre_s, nI_1]
  · unfold f_X10_laySteady_b141
    dsimp only
    rw [if_pos (by decide)]
theorem lay141n {x A y u B : Int32} {z w m : pm_M} (hlt : A ≤ B) {E : pm_M → Option (Int32 × pm_M)} : pm_it (f_X10_laySteady_b141 (x, A, y, z) (u, B, w)) 5000 (0, m) E = E m := by
  refine it_for (fun _ => ((0 : Int32), m)) 0 (fun j hj T => by omega) (fun T => ?_) 0 0 5000 (by omega) (by omega)
  unfold f_X10_laySteady_b141
  dsimp only
  rw [if_neg (by decide), if_pos hlt]
def layQ (μ : pm_M) (rk : Nat → Nat → Nat → Nat) (s c : Nat) (m : pm_M) : Prop := (∀ j, j ≠ 60 → j ≠ 61 → j ≠ 62 → m j = μ j) ∧ ∀ b l, bsf rk s c = some (b, l) → ∀ i, i < 4 → m 62 i = nI (ch b i)
theorem lay_eq (h : okRk μ rk) (hs : s < 2) {M : Nat} (hM : M = 256) : ∃ ν, f_X10_laySteady (nI s) μ = some (nI (cns rk M), ν) ∧ layQ μ rk s M ν := by
  unfold f_X10_laySteady
  refine it_wp (fun k z => ∃ (c : Nat) (m : pm_M), z = (nI (cns rk c), mlB (bsf rk s c), nI c, m) ∧ c + k = M + 1 ∧ c ≤ M ∧ layQ μ rk s c m) (fun o => ∃ ν, o = some (nI (cns rk M), ν) ∧ layQ μ rk s M ν) (fun z g => by obtain ⟨c, m, -, e1, e2, -⟩ := g; omega) (fun k z g T hT => ?_) 5000 (M + 1) _ (by omega) ⟨0, μ, rfl, by omega, by omega, fun _ _ _ _ => rfl, fun b l e => by cases e⟩
  obtain ⟨c, m, rfl, e1, e2, e3, e4⟩ := g
  unfold f_X10_laySteady_b8
  dsimp only
  by_cases q : c = M
  · subst q
    rw [if_pos (show (256 : Int32) ≤ nI c by rw [hM]; decide)]
    exact ⟨m, rfl, e3, e4⟩
  have hc : c < 256 := by omega
  rw [if_neg (show ¬ (256 : Int32) ≤ nI c from nI_ge (b := 256) hc (by omega)), nI_1]
  refine lay25 h hc hs (by rw [e3 54 (by decide) (by decide) (by decide)]) rfl (fun o => ∃ ν, o = some (nI (cns rk M), ν) ∧ layQ μ rk s M ν) (fun m1 f1 f2 f3 => ?_)
  dsimp only
  rw [jn_eq]
  have fr1 : ∀ j, j ≠ 60 → j ≠ 61 → j ≠ 62 → m1 j = μ j := fun j a b d => (f1 j a b).trans (e3 j a b d)
  have ec : cns rk (c + 1) = if stb rk c = true then cns rk c + 1 else cns rk c := rfl
  have eb : bsf rk s (c + 1) = if stb rk c = true then upb (bsf rk s c) c (smk rk s c 4) else bsf rk s c := rfl
  have stay : ¬ stb rk c = true → ∃ ν, T (nI (cns rk c), mlB (bsf rk s c), nI (c + 1), m1) = some (nI (cns rk M), ν) ∧ layQ μ rk s M ν := fun hn => by
    rw [if_neg hn] at ec eb
    refine hT _ ⟨c + 1, m1, by rw [ec, eb], by omega, by omega, fr1, fun b l hb i hi => ?_⟩
    rw [eb] at hb
    rw [f1 62 (by decide) (by decide)]
    exact e4 b l hb i hi
  by_cases hp : perm c = true
  · rw [if_pos ((c_tab c hc).1.mpr hp), m_steady h hp (fr1 54 (by decide) (by decide) (by decide)) f2 (f3 hp), b_some]
    by_cases g : stb rk c = true
    · rw [if_pos g] at ec eb
      rw [if_pos g, if_neg (by decide)]
      have hle := smk_le (s := s) (c := c) h
      have take : bsf rk s (c + 1) = some (c, smk rk s c 4) → ∃ ν, T (nI (cns rk c) + 1, nI (smk rk s c 4), nI (c + 1), pm_row m1 62 (pre 4 (m1 60) (m1 62))) = some (nI (cns rk M), ν) ∧ layQ μ rk s M ν := fun hb => by
        refine hT _ ⟨c + 1, _, by rw [ec, hb, nI_1]; rfl, by omega, by omega, fun j a b d => by rw [row_o d]; exact fr1 j a b d, fun b l e i hi => ?_⟩
        rw [hb] at e
        cases e
        rw [row_r, pre_lt hi, f2 i hi]
      cases hb : bsf rk s c with
      | none =>
        rw [hb] at eb
        have hlt : ¬ mlB none ≤ nI (smk rk s c 4) := nI_ge (b := 1000000) (by omega) (by omega)
        rw [lay141 hlt, jn_eq, if_neg hlt]
        exact take eb
      | some z =>
        obtain ⟨b', l'⟩ := z
        have hk := bsf_ok h c b' l' hb
        rw [hb] at eb
        unfold upb at eb
        dsimp only at eb
        by_cases w : smk rk s c 4 < l'
        · rw [if_pos w] at eb
          have hlt : ¬ mlB (some (b', l')) ≤ nI (smk rk s c 4) := nI_ge w (by omega)
          rw [lay141 hlt, jn_eq, if_neg hlt]
          exact take eb
        · rw [if_neg w] at eb
          have hlt : mlB (some (b', l')) ≤ nI (smk rk s c 4) := nI_le (by omega) (by omega)
          rw [lay141n hlt, jn_eq, if_pos hlt]
          refine hT _ ⟨c + 1, m1, by rw [ec, eb, nI_1], by omega, by omega, fr1, fun b l e i hi => ?_⟩
          rw [eb] at e
          rw [f1 62 (by decide) (by decide)]
          exact e4 b l (by rw [hb]; exact e) i hi
    · rw [if_neg g, if_pos rfl]
      exact stay g
  · rw [if_neg (fun z => hp ((c_tab c hc).1.mp z))]
    exact stay (fun z => hp (stb_iff.mp z).1)
theorem layQ.fr0 {ν : pm_M} (h : layQ μ rk s c ν) : fr0 μ ν := ⟨fun j a b => h.1 j (fun q => by rw [q] at a; cases a) (fun q => by rw [q] at a; cases a) (fun q => by rw [q] at a; cases a), by rw [h.1 50 (by decide) (by decide) (by decide)], by rw [h.1 50 (by decide) (by decide) (by decide)]⟩
end WD5
