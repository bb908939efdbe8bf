theorem m_mends {ν : pm_M} {h G K N : Nat} {r : Nat → Nat} (hN : N = 128) (hK : K = 7) (hh : h < 7) (hG : G = gb (want (ν 51) h) 7) (hG2 : G < 128) (hr : okr9 ν 53 r) (hs : ∀ i, i < 49 → okS (ν 51 i)) : ∃ ξ, f_X10_mends (nI h) ν = some (if 1000000 ≤ modV h G (ap 1000000 r K) N then -6 else nI (modV h G (ap 1000000 r K) N), ξ) ∧ ∀ j, j ≠ 58 → j ≠ 59 → ξ j = ν j := by
  have hD := ap_le (F := 1000000) hr.1 (by omega) K
  unfold f_X10_mends
  rw [m_farm_in hh, b_some, if_neg (by decide), apart_eq hr hK, b_some, m_goal hh (fun i hi => by rw [RW_o (by decide)]; exact hs i hi), RW_o (show 51 ≠ 58 by decide), ← hG]
  generalize hDD : ap 1000000 r K = D at hD ⊢
  refine m61 (h := h) (N := N) (D := D) (m0 := RW ν 58 D) hN hh hG2 hD (fun i hi => RW_at hi) ⟨fun _ _ => rfl, fun S' x a b _ => by omega, fun x hx => by omega⟩ (fun o => ∃ ξ, o = some (if 1000000 ≤ modV h G D N then -6 else nI (modV h G D N), ξ) ∧ ∀ j, j ≠ 58 → j ≠ 59 → ξ j = ν j) (fun ξ c => ?_)
  have h58 : ∀ i, i < 49 → ξ 58 i = nI (D i) := fun i hi => by rw [c.1 58 (by decide)]; exact RW_at hi
  have h59 : ∀ x, x < 7 → bt G x = true → ξ 59 (7 * G + x) = nI (thc h D N G x) := fun x hx hb => c.2.1 _ x (by
    refine Nat.one_le_iff_ne_zero.mpr (fun z => ?_)
    rw [z, bt_0] at hb
    cases hb) (Nat.lt_succ_self G) hx
  refine ⟨ξ, ?_, fun j a b => (c.1 j b).trans (RW_o a)⟩
  rw [jn_eq]
  have last : ∀ a : Nat, a = (if G = 0 then 0 else 1000000) → pm_it (f_X10_mends_b249 (nI h) (nI G) ξ) 5000 (nI a, (0 : Int32)) (fun e249 => (if (1000000 : Int32) ≤ e249 then (some ((-6 : Int32), ξ)) else (some (e249, ξ)))) = some (if 1000000 ≤ modV h G D N then -6 else nI (modV h G D N), ξ) := fun a ha => by
    have ha2 : a ≤ 1000000 := by rw [ha]; split <;> omega
    rw [m249 (N := N) hN hh hG2 hD h58 h59 ha2]
    have em : mnf a (fun x => if bt G x = true then thc h D N G x + D (7 * x + h) else 1000000) 7 = modV h G D N := by unfold modV; rw [ha]
    have hm : modV h G D N ≤ 1000000 := by rw [← em]; exact Nat.le_trans (mnf_a 7) ha2
    rw [em]
    generalize modV h G D N = v at hm
    by_cases q : 1000000 ≤ v
    · rw [if_pos (by rw [i1000000]; exact nI_le q (by omega)), if_pos q]
    · rw [if_neg (by rw [i1000000]; exact nI_ge (by omega) (by omega)), if_neg q]
  by_cases q : G = 0
  · rw [if_pos (by rw [q]; rfl)]
    exact last 0 (by rw [if_pos q])
  · rw [if_neg (nI_ne0 (by omega) (by omega)), i1000000]
    exact last 1000000 (by rw [if_neg q])
theorem okmends : ok_mends Rel := by
  intro p1 μ hR
  obtain ⟨K, hK⟩ : ∃ K : Nat, K = 7 := ⟨7, rfl⟩
  obtain ⟨N, hN⟩ : ∃ N : Nat, N = 128 := ⟨128, rfl⟩
  obtain ⟨r53, r4⟩ := rof_ok hR.1
  unfold f_X9_mends
  rcases in_or p1 (n := 7) (by omega) with h | ⟨h, hh, rfl⟩
  · exact ⟨-1, μ, μ, by rw [farm_out h, b_some, if_pos rfl], by unfold f_X10_mends; rw [m_farm_out h, b_some, if_pos rfl], hR⟩
  have hr1 := hR.1
  have hwh : want (μ 51) h h = false := by
    cases q : want (μ 51) h h
    · rfl
    · have e : μ 51 (7 * h + h) = -6 := by rw [show 7 * h + h = 8 * h by omega]; exact hr1.2.2.1 h hh
      have := (want_iff.mp q).1
      rw [e] at this
      exact absurd neg6 this
  obtain ⟨G, hG⟩ : ∃ G : Nat, G = gb (want (μ 51) h) 7 := ⟨_, rfl⟩
  have hGlt : G < 128 := by rw [hG]; exact gb_lt (want (μ 51) h) 7
  have hGh : bt G h = false := by rw [hG]; exact gb_bit hh hwh 7 (Nat.le_refl 7)
  have hdl := ap_le (F := 1000) r53.1 (by omega) K
  have hD := ap_le (F := 1000000) r53.1 (by omega) K
  have hcap := ap_cap r53.1 K
  have hdd := ap_d 1000000 (rof μ) K h hh
  have h54 : ∀ i, i < 49 → ap 1000000 (rof μ) K i < 1000000 → ap 1000000 (rof μ) K i ≤ 54 := fun i hi hlt => ap_54 (F := 1000000) hK r53.1 (by omega) hi hlt
  rw [farm_in hh, b_some, if_neg (by decide), measure_eq r4 hK, b_some, x_goal (B := μ 51) hh (fun i hi => by rw [RW_o (by decide)]; exact hr1.1.1 i hi), b_some, ← hG]
  obtain ⟨ν, t1, t2⟩ := tour_eq (h := h) (G := G) (dl := ap 1000 (rof μ) K) (m := RW μ 46 (ap 1000 (rof μ) K)) hN hh hGlt hGh hdl (fun i hi => RW_at hi)
  have hfr1 : fr0 μ ν := (RW_fr (m := μ) (j := 46) (g := ap 1000 (rof μ) K) rfl).tr ⟨fun j a b => t2 j (fun q => by rw [q] at a; cases a), by rw [t2 50 (by decide)], by rw [t2 50 (by decide)]⟩
  have e51 : ν 51 = μ 51 := hfr1.1 51 rfl (by decide)
  have e53 : ν 53 = μ 53 := hfr1.1 53 rfl (by decide)
  obtain ⟨ξ, x1, x2⟩ := m_mends (ν := ν) (r := rof μ) hN hK hh (by rw [e51]; exact hG) hGlt ⟨r53.1, fun i hi => by rw [e53]; exact r53.2 i hi⟩ (fun i hi => by rw [e51]; exact hr1.2.2.2.1 i hi)
  obtain ⟨f1, f2⟩ := fin_eq (N := N) (h := h) (G := G) (D := ap 1000000 (rof μ) K) (dl := ap 1000 (rof μ) K) hN hh hGlt hGh hD hcap hdd h54
  rw [t1, b_some]
  generalize clsV h G (ap 1000 (rof μ) K) N = cv at f1 ⊢
  generalize modV h G (ap 1000000 (rof μ) K) N = mv at f1 f2 x1
  have hx : Rel ξ := Rel_fr (hfr1.tr ⟨fun j a b => x2 j (fun q => by rw [q] at a; cases a) (fun q => by rw [q] at a; cases a), by rw [x2 50 (by decide) (by decide)], by rw [x2 50 (by decide) (by decide)]⟩) hR
  by_cases q : mv < 1000000
  · have := f2 q
    rw [if_neg (by omega)] at x1
    refine ⟨nI mv, ν, ξ, ?_, x1, hx⟩
    rw [if_neg (by omega), f1, Nat.min_eq_left (by omega)]
  · rw [if_pos (by omega)] at x1
    refine ⟨-6, ν, ξ, ?_, x1, hx⟩
    rw [if_pos (by omega)]
