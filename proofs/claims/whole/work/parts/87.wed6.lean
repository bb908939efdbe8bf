theorem oksteady : ok_steady Rel := by
  intro μ hR
  obtain ⟨rk, hr⟩ := rk_of hR.2.1
  obtain ⟨M, hM⟩ : ∃ M : Nat, M = 256 := ⟨256, rfl⟩
  obtain ⟨ν, a1, a2⟩ := lay_eq (s := 0) hr (by omega) hM
  have a1 : f_X10_laySteady 0 μ = some (nI (cns rk M), ν) := a1
  unfold f_X9_steady f_X10_steady
  exact ⟨nI (cns rk M), ν, by rw [x_count hr hM, b_some], by rw [a1, b_some], Rel_fr a2.fr0 hR⟩
theorem wed45 {ν : pm_M} {b s o : Nat} {n : Int32} (h62 : ∀ i, i < 4 → ν 62 i = nI (ch b i)) (hb : b < 256) (hp : perm b = true) (hs : s < 2) (ho : o < 4) {E : Int32 → Option (Int32 × pm_M)} : pm_it (f_X10_wed_b45 (nI s) (nI o) (n, ν)) 5000 (-6, 0) E = E (nI (pt4 b s o)) := by
  rcases (show s = 0 ∨ s = 1 by omega) with rfl | rfl
  · refine it_for (fun k => (if k = 0 then (-6 : Int32) else nI (ch b o), nI k)) 4 (fun k hk T => ?_) (fun T => ?_) 4 0 5000 (by omega) (by omega)
    · unfold f_X10_wed_b45
      dsimp only
      rw [if_neg (show ¬ (4 : Int32) ≤ nI k from nI_ge (b := 4) hk (by omega)), jn_eq, if_pos (show nI 0 = 0 from rfl), ck_in ho (by omega), nI_clamp (by omega), h62 o ho, nI_1, if_neg (by omega)]
    · unfold f_X10_wed_b45
      dsimp only
      rw [if_pos (by decide), if_neg (by decide)]
      rfl
  · refine it_for (fun k => (if inv4 b o < k then nI (inv4 b o) else (-6 : Int32), nI k)) 4 (fun k hk T => ?_) (fun T => ?_) 4 0 5000 (by omega) (by omega)
    · unfold f_X10_wed_b45
      dsimp only
      have hx := p_tab b hb hp k hk o ho
      have hl := ch_lt b k
      rw [if_neg (show ¬ (4 : Int32) ≤ nI k from nI_ge (b := 4) hk (by omega)), jn_eq, if_neg (show ¬ nI 1 = 0 by decide), ck_in hk (by omega), nI_clamp (by omega), nI_1]
      by_cases g : ch b k = o
      · have e := hx.mpr g
        rw [if_pos (show ν 62 k = nI o by rw [h62 k hk, g]), if_pos (by omega), e]
      · have e : ¬ inv4 b o = k := fun z => g (hx.mp z)
        rw [if_neg (show ¬ ν 62 k = nI o by rw [h62 k hk]; exact nI_ne g (by omega) (by omega))]
        by_cases w : inv4 b o < k
        · rw [if_pos w, if_pos (by omega)]
        · rw [if_neg w, if_neg (by omega)]
    · unfold f_X10_wed_b45
      dsimp only
      rw [if_pos (by decide), if_pos (inv_lt b o)]
      rfl
theorem okwed : ok_wed Rel := by
  intro p1 p2 p3 μ hR
  unfold f_X9_wed f_X10_wed
  rcases in_or p1 (n := 2) (by omega) with h | ⟨s, hs, rfl⟩
  · exact ⟨-1, μ, by rw [one_out1 h, b_some, if_pos rfl], by rw [zi_out h, b_some, if_pos rfl], hR⟩
  rw [zi_in hs, b_some, if_neg (by decide)]
  rcases in_or p2 (n := 4) (by omega) with h | ⟨o, ho, rfl⟩
  · refine ⟨-1, μ, by rw [one_out2 hs h, b_some, if_pos rfl], ?_, hR⟩
    rcases h with h | h
    · rw [x10_in_lo h, b_some, if_pos rfl]
    · rw [x10_in_hi (Int32.lt_of_lt_of_le (show (3 : Int32) < nI 4 by decide) h), b_some, if_pos rfl]
  have m3 : f_X10_in (nI o) 0 3 = some 1 := x10_in_in (nI_pos' (by omega)) (nI_le (b := 3) (by omega) (by omega))
  rw [one_in hs ho, b_some, if_neg (by decide), m3, b_some, if_neg (by decide)]
  rcases in_or p3 (n := 2) (by omega) with h | ⟨t, ht, rfl⟩
  · exact ⟨-2, μ, by rw [zo_out h, b_some, if_pos rfl], by rw [zi_out h, b_some, if_pos rfl], hR⟩
  rw [zo_in ht, b_some, if_neg (by decide), zi_in ht, b_some, if_neg (by decide)]
  obtain ⟨M, hM⟩ : ∃ M : Nat, M = 256 := ⟨256, rfl⟩
  obtain ⟨rk, hr⟩ := rk_of hR.2.1
  obtain ⟨ν, a1, a2⟩ := lay_eq (s := t) hr ht hM
  obtain ⟨c0, hc0, hst0⟩ := gs (rk := rk) ⟨fun s o x h1 h2 h3 => (hr.1 s o x h1 h2 h3).1, hr.2⟩
  have xb := x_best hr ht hM
  obtain ⟨⟨b, l⟩, hz⟩ := bsf_some (s := t) hst0 M (by omega)
  obtain ⟨k1, k2, k3⟩ := bsf_ok (s := t) hr M b l hz
  rw [hz] at xb
  have xb : f_X1_bestSteady 7 (nI t) μ = some (nI b) := xb
  have hp := (stb_iff.mp k2).1
  refine ⟨nI (pt4 b s o), ν, ?_, ?_, Rel_fr a2.fr0 hR⟩
  · rw [xb, b_some, x_part (by omega) hp hs ho, b_some]
  · rw [a1, b_some, wed45 (a2.2 b l hz) (by omega) hp hs ho]
