theorem okyear : ok_year Rel := by
  intro p1 p2 p3 μ hR
  rcases in_or p1 (n := 10000) (by omega) with h | ⟨x, hx, rfl⟩
  · have := yr_out p1 p2 p3 μ (h.elim Or.inl (fun h => Or.inr (Or.inl (gt9999 h))))
    exact ⟨-2, μ, μ, this.1, this.2, hR⟩
  rcases in_or p2 (n := 100) (by omega) with h | ⟨Y, hY, rfl⟩
  · have := yr_out (nI x) p2 p3 μ (Or.inr (Or.inr (h.elim (fun h => Or.inl (Int32.lt_trans h (by decide))) (fun h => Or.inr (Or.inl (Int32.lt_of_lt_of_le (by decide) h))))))
    exact ⟨-2, μ, μ, this.1, this.2, hR⟩
  rcases in_or p3 (n := 3) (by omega) with h | ⟨t, ht, rfl⟩
  · have := yr_out (nI x) (nI Y) p3 μ (Or.inr (Or.inr (Or.inr (Or.inr (h.elim Or.inl (fun h => Or.inr (Int32.lt_of_lt_of_le (by decide) h)))))))
    exact ⟨-2, μ, μ, this.1, this.2, hR⟩
  by_cases hY0 : Y = 0
  · subst hY0
    have := yr_out (nI x) (nI 0) (nI t) μ (Or.inr (Or.inr (Or.inl (by decide))))
    exact ⟨-2, μ, μ, this.1, this.2, hR⟩
  obtain ⟨hm, hok⟩ := id hR.1
  obtain ⟨μ1, c1, c2, c3⟩ := copyM (b := 37) (μ := μ) (c := 2) (B := μ 51) (R := μ 53) (by omega) hm
  obtain ⟨μ2, d1, d2, d3⟩ := draw_eq (x := x) (Y := Y) c2 hok (by omega) (by omega)
  have hW : frW μ μ2 := fun j a b => (d3 j (by omega)).trans (c3 j (by omega))
  have hokY := yr_ok Y x (μ 51) hok
  generalize hB : yrA (μ 53) Y x (μ 51) = B at d2 hokY
  have hcl : f_X9_year (nI x) (nI Y) (nI t) μ = pm_sw (nI t) [0, 1] [(f_X2_countGaps 37 μ2).bind (fun r4 => (some (r4, μ2))), (f_X2_awayBits 37 μ2).bind (fun r5 => (f_J6_bitCount_0f7a4 r5).bind (fun r6 => (some (r6, μ2))))] ((f_X2_cowsOf 37 (0 : Int32) μ2).bind (fun r7 => (some (r7, μ2)))) := by
    unfold f_X9_year
    rw [jn_eq, jn_eq, if_neg (nI_pos (by omega)), if_neg (Int32.not_lt.mpr (le9999 hx)), if_neg (show ¬ nI Y < 1 from Int32.not_lt.mpr (nI_le (a := 1) (by omega) (by omega))), if_neg (show ¬ 99 < nI Y from Int32.not_lt.mpr (nI_le (b := 99) (by omega) (by omega)))]
    dsimp only
    rw [if_neg (show ¬ (1 : Int32) = 0 by decide), if_neg (nI_pos (by omega)), if_pos (show nI t ≤ 2 from nI_le (b := 2) (by omega) (by omega)), c1, b_some, d1, b_some]
  obtain ⟨m, hm7, em⟩ := aw_lt (fun f => B (49 + f)) 7 (Nat.le_refl 7)
  have hm7 : m < 128 := hm7
  have hmod : ∃ ν, f_X10_year (nI x) (nI Y) (nI t) μ2 = some (if t = 0 then nI (cpair B 0 0) else if t = 1 then nI (bs m 7) else B 56, ν) ∧ fr0 μ2 ν := by
    unfold f_X10_year
    rw [x10_in_in (nI_pos' (by omega)) (le9999 hx), b_some, if_neg (show ¬ (1 : Int32) = 0 by decide), x10_in_in (show 1 ≤ nI Y from nI_le (a := 1) (by omega) (by omega)) (show nI Y ≤ 99 from nI_le (b := 99) (by omega) (by omega)), b_some, if_neg (show ¬ (1 : Int32) = 0 by decide), x10_in_in (nI_pos' (by omega)) (show nI t ≤ 2 from nI_le (b := 2) (by omega) (by omega)), b_some, if_neg (show ¬ (1 : Int32) = 0 by decide), asNow_eq, b_some]
    have e51 : μ2 51 = μ 51 := hW 51 (by omega) (by decide)
    have e53 : μ2 53 = μ 53 := hW 53 (by omega) (by decide)
    have hfn := asNow_fr μ2
    have hrn : repN (pm_up (pm_up (pm_up (pm_row μ2 52 (pre 64 (μ2 51) (μ2 52))) 50 8 0) 50 9 (-6)) 50 10 (-6)) (μ 51) (μ 53) := by
      unfold repN
      rw [up_o (by decide), up_o (by decide), up_o (by decide), up_o (by decide), up_o (by decide), up_o (by decide), row_r, row_o (by decide), e53, e51]
      exact ⟨fun i hi => pre_lt hi, fun _ _ => rfl⟩
    generalize pm_up (pm_up (pm_up (pm_row μ2 52 (pre 64 (μ2 51) (μ2 52))) 50 8 0) 50 9 (-6)) 50 10 (-6) = μ3 at *
    refine year_loop (μ0 := μ3) (B := μ 51) (R := μ 53) (fun o => ∃ ν, o = some (if t = 0 then nI (cpair B 0 0) else if t = 1 then nI (bs m 7) else B 56, ν) ∧ fr0 μ2 ν) ⟨fun _ _ _ => rfl, fun _ _ _ => rfl⟩ hrn hok (by omega) (by omega) (fun ν v1 v2 => ?_)
    rw [hB] at v2
    have hfz : fr0 μ2 ν := hfn.tr v1.fr0
    have haw : f_X10_away ν = some (nI m) := by rw [m_away, awf_congr (p := fun f => ν 52 (49 + f)) (q := fun f => B (49 + f)) 7 (fun f hf => v2.1 _ (by omega)), em]
    rw [bs_loop hm7 haw]
    refine ⟨ν, ?_, hfz⟩
    have : t = 0 ∨ t = 1 ∨ t = 2 := by omega
    rcases this with rfl | rfl | rfl
    · rw [if_pos (show nI 0 = 0 from rfl), po_rel hokY (fun i hi => v2.1 i (by omega)), b_some]; rfl
    · rw [if_neg (show ¬ nI 1 = 0 by decide), if_pos (show nI 1 = 1 from rfl)]; rfl
    · rw [if_neg (show ¬ nI 2 = 0 by decide), if_neg (show ¬ nI 2 = 1 by decide), show (56 : Int32) = nI 56 from rfl, ck_in (by omega) (by omega), nI_clamp (by omega), v2.1 56 (by omega)]; rfl
  obtain ⟨ν, y1, y2⟩ := hmod
  refine ⟨_, μ2, ν, ?_, y1, Rel_fr ((frW.fr0 hW).tr y2) hR⟩
  rw [hcl]
  have : t = 0 ∨ t = 1 ∨ t = 2 := by omega
  rcases this with rfl | rfl | rfl
  · rw [sw0 (by decide), cgaps_eq, b_some, cpair_congr d2.1]; rfl
  · rw [sw1 (by decide), sw0 (by decide), cl_away, b_some, awf_congr (q := fun f => B (49 + f)) 7 d2.2.2.1, em, (bc_tab m hm7).1, b_some]; rfl
  · rw [sw1 (by decide), sw1 (by decide), swn, show (0 : Int32) = nI 0 from rfl, cow_eq (by omega), b_some, d2.2.2.2.1 0 (by omega)]; rfl
