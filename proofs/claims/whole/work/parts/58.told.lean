/-! WHAT IS TOLD -/
theorem one_in {s o : Nat} (hs : s < 2) (ho : o < 4) : f_X9_isOne (nI s) (nI o) = some 1 := by
  unfold f_X9_isOne
  rw [zo_in hs, b_some, if_neg (show ¬ (1 : Int32) = 0 by decide), if_neg (nI_pos (by omega)), if_neg (show ¬ (4 : Int32) ≤ nI o from nI_ge (b := 4) ho (by omega))]
theorem x_row {b s o : Nat} {μ : pm_M} (hs : s < 2) (ho : o < 4) : f_X1_rowOf b (nI s) (nI o) μ = some (μ (b + 1) (4 * s + o)) := by
  unfold f_X1_rowOf
  rw [one_in hs ho, b_some, if_neg (show ¬ (1 : Int32) = 0 by decide), show (4 : Int32) * nI s + nI o = nI (4 * s + o) by rw [show (4 : Int32) = nI 4 from rfl, pk_mul, nI_add], ck_in (by omega) (by omega), nI_clamp (by omega)]
def racc (d : Nat → Nat) : Nat → Nat
  | 0 => 0
  | k + 1 => 10 * racc d k + d k
theorem ix16 (s o k : Nat) : ((16 : Int32) * nI s + (4 : Int32) * nI o) + nI k = nI (16 * s + 4 * o + k) := by
  rw [show (16 : Int32) = nI 16 from rfl, pk_mul, show (4 : Int32) = nI 4 from rfl, pk_mul, nI_add, nI_add]
theorem m_row {s o : Nat} {μ : pm_M} {d : Nat → Nat} (hs : s < 2) (ho : o < 4) (hd : ∀ i, i < 4 → μ 54 (16 * s + 4 * o + i) = nI (d i)) : f_X10_rowOf (nI s) (nI o) μ = some (nI (racc d 4)) := by
  unfold f_X10_rowOf
  refine it_for (fun k => (nI (racc d k), nI k)) 4 (fun k hk T => ?_) (fun T => ?_) 4 0 5000 (by omega) (by omega)
  · show (if (4 : Int32) ≤ nI k then _ else _) = _
    rw [if_neg (show ¬ (4 : Int32) ≤ nI k from nI_ge (b := 4) hk (by omega))]
    dsimp only
    rw [let_eq, ix16, ck_in (by omega) (by omega), nI_clamp (by omega), hd k hk, let_eq, show (10 : Int32) = nI 10 from rfl, pk_mul, nI_add, nI_1]
    rfl
  · rfl
theorem racc_4 (d : Nat → Nat) : racc d 4 = 1000 * d 0 + 100 * d 1 + 10 * d 2 + d 3 := by
  show 10 * (10 * (10 * (10 * 0 + d 0) + d 1) + d 2) + d 3 = _
  omega
theorem row_2 {μ : pm_M} {s o : Nat} (hR : R2 μ) (hs : s < 2) (ho : o < 4) : f_X1_rowOf 7 (nI s) (nI o) μ = some (μ 8 (4 * s + o)) ∧ f_X10_rowOf (nI s) (nI o) μ = some (μ 8 (4 * s + o)) := by
  obtain ⟨d, d1, d2, d3⟩ := hR s o hs ho
  refine ⟨x_row hs ho, ?_⟩
  rw [m_row hs ho (fun i hi => (d1 i hi).2.1), racc_4, d3]
theorem t10 {k : Nat} (h : k < 2 ^ 31) : nI k / 10 = nI (k / 10) := pk_div (a := k) (d := 10) (by omega) (by omega) (by omega)
theorem t100 {k : Nat} (h : k < 2 ^ 31) : nI k / 100 = nI (k / 100) := pk_div (a := k) (d := 100) (by omega) (by omega) (by omega)
theorem tr10 {k : Nat} (h : k < 2 ^ 31) : pm_rem (nI k) 10 = nI (k % 10) := pk_rem (a := k) (d := 10) (by omega) (by omega) (by omega)
theorem told_all {μ : pm_M} {k : Nat} (hR : Rel μ) (hk : k < 10) : ∃ r ν, f_X9_toldOfAll (nI k) μ = some r ∧ (f_X10_asNow μ).bind (fun m1 => (pm_sw (nI k) [0, 1, 2, 3] [(some ((m1 50 6), m1)), (f_X10_palesOf (0 : Int32) m1).bind (fun r2 => (some (r2, m1))), (f_X10_away m1).bind (fun r3 => (some (r3, m1))), pm_ck (63 : Int32) 64 ((some ((m1 51 (Int32.toNatClampNeg (63 : Int32))), m1)))] ((if nI k = (4 : Int32) then (some ((m1 50 4), m1)) else (some ((-2 : Int32), m1)))))) = some (r, ν) ∧ fr0 μ ν := by
  obtain ⟨⟨hm, hok⟩, h2, h3, h4, h5, h6⟩ := id hR
  unfold f_X9_toldOfAll
  rw [asNow_eq, b_some]
  have hf := asNow_fr μ
  have e52 : ∀ i, i < 64 → pm_up (pm_up (pm_up (pm_row μ 52 (pre 64 (μ 51) (μ 52))) 50 8 0) 50 9 (-6)) 50 10 (-6) 52 i = μ 51 i := fun i hi => by
    rw [up_o (by decide), up_o (by decide), up_o (by decide), row_r, pre_lt hi]
  generalize pm_up (pm_up (pm_up (pm_row μ 52 (pre 64 (μ 51) (μ 52))) 50 8 0) 50 9 (-6)) 50 10 (-6) = μ3 at *
  have : k = 0 ∨ k = 1 ∨ k = 2 ∨ k = 3 ∨ k = 4 ∨ 5 ≤ k := by omega
  rcases this with rfl | rfl | rfl | rfl | rfl | q
  · obtain ⟨N, hN, e1, e2, -⟩ := h4
    refine ⟨nI N, μ3, ?_, ?_, hf⟩
    · unfold f_X3_size; rw [sw0 (by decide), b_some, e1]
    · rw [sw0 (by decide), hf.2.2, e2]
  · refine ⟨nI (cpair (μ 51) 0 0), μ3, ?_, ?_, hf⟩
    · rw [sw1 (by decide), sw0 (by decide), cgaps_eq, b_some, cpair_congr hm.1]
    · rw [sw1 (by decide), sw0 (by decide), po_rel hok (fun i hi => e52 i (by omega)), b_some]
  · refine ⟨awf (fun f => μ 51 (49 + f)) 7, μ3, ?_, ?_, hf⟩
    · rw [sw1 (by decide), sw1 (by decide), sw0 (by decide), cl_away, b_some, awf_congr 7 hm.2.2.1]
    · rw [sw1 (by decide), sw1 (by decide), sw0 (by decide), m_away, b_some, awf_congr (p := fun f => μ3 52 (49 + f)) (q := fun f => μ 51 (49 + f)) 7 (fun f hf => e52 _ (by omega))]
  · refine ⟨μ 51 63, μ3, ?_, ?_, hf⟩
    · rw [sw1 (by decide), sw1 (by decide), sw1 (by decide), sw0 (by decide), hm.2.2.2.2]
    · rw [sw1 (by decide), sw1 (by decide), sw1 (by decide), sw0 (by decide), show (63 : Int32) = nI 63 from rfl, ck_in (by omega) (by omega), nI_clamp (by omega), hf.1 51 rfl (by decide)]
  · obtain ⟨N, hN, e1, e2, -⟩ := h3
    refine ⟨nI N, μ3, ?_, ?_, hf⟩
    · rw [sw1 (by decide), sw1 (by decide), sw1 (by decide), sw1 (by decide), sw0 (by decide), e1]
    · rw [sw1 (by decide), sw1 (by decide), sw1 (by decide), sw1 (by decide), swn, if_pos (by decide), hf.2.1, e2]
  · have n0 : ∀ c : Nat, c < 5 → ¬ nI k = nI c := fun c hc => nI_ne (by omega) (by omega) (by omega)
    have z0 : ¬ nI k = 0 := n0 0 (by omega)
    have z1 : ¬ nI k = 1 := n0 1 (by omega)
    have z2 : ¬ nI k = 2 := n0 2 (by omega)
    have z3 : ¬ nI k = 3 := n0 3 (by omega)
    have z4 : ¬ nI k = 4 := n0 4 (by omega)
    refine ⟨-2, μ3, ?_, ?_, hf⟩
    · rw [sw1 z0, sw1 z1, sw1 z2, sw1 z3, sw1 z4, swn]
    · rw [sw1 z0, sw1 z1, sw1 z2, sw1 z3, swn, if_neg z4]
theorem oktold : ok_told Rel := by
  intro p μ hR
  obtain ⟨⟨hm, hok⟩, h2, h3, h4, h5, h6⟩ := id hR
  unfold f_X9_told f_X10_told
  by_cases h0 : p < 0
  · refine ⟨-2, _, by rw [if_neg (Int32.not_le.mpr h0)], ?_, Rel_fr (asNow_fr μ) hR⟩
    have n0 : ∀ c : Int32, 0 ≤ c → ¬ p = c := fun c hc q => by rw [q] at h0; exact absurd h0 (Int32.not_lt.mpr hc)
    rw [if_pos (Int32.lt_trans h0 (by decide)), if_pos (Int32.lt_trans h0 (by decide)), if_pos (Int32.lt_trans h0 (by decide)), asNow_eq, b_some, sw1 (n0 0 (by decide)), sw1 (n0 1 (by decide)), sw1 (n0 2 (by decide)), sw1 (n0 3 (by decide)), swn, if_neg (n0 4 (by decide))]
  obtain ⟨k, hk, rfl⟩ := nI_of h0
  rw [if_pos (nI_pos' hk)]
  by_cases c1 : k < 10
  · obtain ⟨r, ν, e1, e2, e3⟩ := told_all hR c1
    refine ⟨r, ν, ?_, ?_, Rel_fr e3 hR⟩
    · rw [if_neg (show ¬ (10 : Int32) ≤ nI k from nI_ge (b := 10) (by omega) (by omega)), e1, b_some]
    · rw [if_pos (show nI k < 100 from nI_lt (b := 100) (by omega) (by omega)), if_pos (show nI k < 30 from nI_lt (b := 30) (by omega) (by omega)), if_pos (show nI k < 10 from nI_lt (b := 10) (by omega) (by omega)), e2]
  rw [if_pos (show (10 : Int32) ≤ nI k from nI_le (a := 10) (by omega) hk)]
  by_cases c2 : k < 30
  · rw [if_neg (show ¬ (30 : Int32) ≤ nI k from nI_ge (b := 30) (by omega) (by omega)), if_pos (show nI k < 100 from nI_lt (b := 100) (by omega) (by omega)), if_pos (show nI k < 30 from nI_lt (b := 30) (by omega) (by omega)), if_neg (show ¬ nI k < 10 from Int32.not_lt.mpr (nI_le (a := 10) (by omega) hk)), t10 hk, tr10 hk]
    unfold f_X9_toldOfFarm
    by_cases c3 : k % 10 < 7
    · rw [farm_in c3, b_some, if_neg (show ¬ (1 : Int32) = 0 by decide), m_farm_in c3, b_some, if_neg (show ¬ (1 : Int32) = 0 by decide)]
      by_cases c4 : k < 20
      · refine ⟨μ 51 (49 + k % 10), μ, ?_, ?_, hR⟩
        · rw [if_pos (show nI (k / 10) = 1 by rw [show k / 10 = 1 by omega]; rfl), plc_eq c3, b_some, b_some, hm.2.2.1 _ c3]
        · rw [if_neg (show ¬ (20 : Int32) ≤ nI k from nI_ge (b := 20) (by omega) (by omega)), show (39 : Int32) + nI k = nI (39 + k) from nI_add 39 k, ck_in (by omega) (by omega), nI_clamp (by omega), show 39 + k = 49 + k % 10 by omega]
      · refine ⟨μ 51 (56 + k % 10), μ, ?_, ?_, hR⟩
        · rw [if_neg (show ¬ nI (k / 10) = 1 from nI_ne (c := 1) (by omega) (by omega) (by omega)), cow_eq c3, b_some, b_some, hm.2.2.2.1 _ c3]
        · rw [if_pos (show (20 : Int32) ≤ nI k from nI_le (a := 20) (by omega) hk), show (36 : Int32) + nI k = nI (36 + k) from nI_add 36 k, ck_in (by omega) (by omega), nI_clamp (by omega), show 36 + k = 56 + k % 10 by omega]
    · refine ⟨-2, μ, ?_, ?_, hR⟩
      · rw [farm_out (Or.inr (nI_le (by omega) (by omega))), b_some, if_pos rfl, b_some]
      · rw [m_farm_out (Or.inr (nI_le (by omega) (by omega))), b_some, if_pos rfl]
  rw [if_pos (show (30 : Int32) ≤ nI k from nI_le (a := 30) (by omega) hk)]
  by_cases c3 : k < 100
  · rw [if_neg (show ¬ (100 : Int32) ≤ nI k from nI_ge (b := 100) (by omega) (by omega)), if_pos (show nI k < 100 from nI_lt (b := 100) (by omega) (by omega)), if_neg (show ¬ nI k < 30 from Int32.not_lt.mpr (nI_le (a := 30) (by omega) hk)), t10 hk, tr10 hk, show (3 : Int32) = nI 3 from rfl, pk_sub (show 3 ≤ k / 10 by omega)]
    unfold f_X9_toldOfOne
    by_cases c4 : k < 50
    · rw [if_neg (show ¬ (50 : Int32) ≤ nI k from nI_ge (b := 50) (by omega) (by omega))]
      by_cases c5 : k % 10 < 4
      · obtain ⟨a1, a2⟩ := row_2 h2 (show k / 10 - 3 < 2 by omega) c5
        refine ⟨μ 8 (4 * (k / 10 - 3) + k % 10), μ, ?_, ?_, hR⟩
        · rw [one_in (by omega) c5, b_some, if_neg (show ¬ (1 : Int32) = 0 by decide), a1, b_some, b_some]
        · rw [if_neg (show ¬ (4 : Int32) ≤ nI (k % 10) from nI_ge (b := 4) (by omega) (by omega)), a2, b_some]
      · refine ⟨-2, μ, ?_, ?_, hR⟩
        · unfold f_X9_isOne
          rw [zo_in (by omega), b_some, if_neg (show ¬ (1 : Int32) = 0 by decide), if_neg (nI_pos (by omega)), if_pos (show (4 : Int32) ≤ nI (k % 10) from nI_le (a := 4) (by omega) (by omega)), b_some, if_pos rfl, b_some]
        · rw [if_pos (show (4 : Int32) ≤ nI (k % 10) from nI_le (a := 4) (by omega) (by omega))]
    · refine ⟨-2, μ, ?_, ?_, hR⟩
      · unfold f_X9_isOne
        rw [zo_out (Or.inr (nI_le (by omega) (by omega))), b_some, if_pos rfl, b_some, if_pos rfl, b_some]
      · rw [if_pos (show (50 : Int32) ≤ nI k from nI_le (a := 50) (by omega) hk)]
  rw [if_pos (show (100 : Int32) ≤ nI k from nI_le (a := 100) (by omega) hk), if_neg (show ¬ nI k < 100 from Int32.not_lt.mpr (nI_le (a := 100) (by omega) hk)), t100 hk, t10 hk, tr10 (by omega), tr10 hk, let_eq, let_eq]
  unfold f_X9_toldOfPair
  have out : ∀ o : Option (Int32 × pm_M), (o = some (-2, μ)) → ∃ (r : Int32) (μ2 : pm_M), (some (-2 : Int32)).bind (fun r1 => some r1) = some r ∧ o = some (r, μ2) ∧ Rel μ2 := fun o ho => ⟨-2, μ, rfl, ho, hR⟩
  by_cases c4 : k / 10 % 10 < 7
  · rw [farm_in c4, b_some, if_neg (show ¬ (1 : Int32) = 0 by decide), m_farm_in c4, b_some, if_neg (show ¬ (1 : Int32) = 0 by decide)]
    by_cases c5 : k % 10 < 7
    · rw [farm_in c5, b_some, if_neg (show ¬ (1 : Int32) = 0 by decide), m_farm_in c5, b_some, if_neg (show ¬ (1 : Int32) = 0 by decide)]
      by_cases c6 : k < 300
      · rw [if_pos (show nI (k / 100) ≤ 2 from nI_le (b := 2) (by omega) (by omega)), if_neg (show ¬ 299 < nI k from Int32.not_lt.mpr (nI_le (b := 299) (by omega) (by omega))), ix7, nI_clamp (by omega)]
        by_cases c7 : k < 200
        · refine ⟨μ 51 (7 * (k / 10 % 10) + k % 10), μ, ?_, ?_, hR⟩
          · rw [if_pos (show nI (k / 100) = 1 by rw [show k / 100 = 1 by omega]; rfl), strB_eq c4 c5, b_some, b_some, hm.1 _ (by omega)]
          · rw [if_neg (show ¬ (200 : Int32) ≤ nI k from nI_ge (b := 200) (by omega) (by omega)), ck_in (by omega) (by omega)]
        · refine ⟨μ 53 (7 * (k / 10 % 10) + k % 10), μ, ?_, ?_, hR⟩
          · rw [if_neg (show ¬ nI (k / 100) = 1 from nI_ne (c := 1) (by omega) (by omega) (by omega)), milB_eq c4 c5, b_some, b_some, hm.2.1 _ (by omega)]
          · rw [if_pos (show (200 : Int32) ≤ nI k from nI_le (a := 200) (by omega) hk), ck_in (by omega) (by omega)]
      · rw [if_neg (show ¬ nI (k / 100) ≤ 2 from nI_ge (a := 2) (by omega) (by omega))]
        exact out _ (by rw [if_pos (show 299 < nI k from nI_lt (a := 299) (by omega) hk)])
    · rw [farm_out (Or.inr (nI_le (by omega) (by omega))), b_some, if_pos rfl]
      refine out _ ?_
      rw [m_farm_out (Or.inr (nI_le (by omega) (by omega))), b_some, if_pos rfl]
      split <;> rfl
  · rw [farm_out (Or.inr (nI_le (by omega) (by omega))), b_some, if_pos rfl]
    refine out _ ?_
    rw [m_farm_out (Or.inr (nI_le (by omega) (by omega))), b_some, if_pos rfl]
    split <;> rfl
