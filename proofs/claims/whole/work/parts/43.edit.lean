/-! pale, road, farm -/
theorem m_farm_in {j : Nat} (h : j < 7) : f_X10_isFarm (nI j) = some 1 := by
  unfold f_X10_isFarm
  rw [x10_in_in (nI_pos' (by omega)) (show nI j ≤ (6 : Int32) from nI_le (b := 6) (by omega) (by omega)), b_some]
  rfl
theorem m_farm_out {x : Int32} (h : x < 0 ∨ nI 7 ≤ x) : f_X10_isFarm x = some 0 := by
  unfold f_X10_isFarm
  have h2 : f_X10_in x 0 6 = some 0 := by
    rcases h with h | h
    · exact x10_in_lo h
    · exact x10_in_hi (Int32.lt_of_lt_of_le (show (6 : Int32) < nI 7 by decide) h)
  rw [h2, b_some]
  rfl
theorem nI_ne {a c : Nat} (h : a ≠ c) (ha : a < 2 ^ 31) (hc : c < 2 ^ 31) : ¬ nI a = nI c := fun q => h ((nI_eq ha hc).mp q)
theorem setS_eq {b a c : Nat} {v : Int32} {μ : pm_M} (ha : a < 7) (hc : c < 7) (h : a ≠ c) : f_X2_setStrength b (nI a) (nI c) v μ = some (pm_up (pm_up μ (b + 1) (7 * a + c) v) (b + 1) (7 * c + a) v) := by
  unfold f_X2_setStrength
  rw [two_in ha hc h, b_some, if_neg (by decide), ix7, ix7, ck_in (by omega) (by omega), let_eq, ck_in (by omega) (by omega), let_eq, nI_clamp (by omega), nI_clamp (by omega)]
theorem setM_eq {b a c : Nat} {v : Int32} {μ : pm_M} (ha : a < 7) (hc : c < 7) (h : a ≠ c) : f_X2_setMiles b (nI a) (nI c) v μ = some (pm_up (pm_up μ (b + 2) (7 * a + c) v) (b + 2) (7 * c + a) v) := by
  unfold f_X2_setMiles
  rw [two_in ha hc h, b_some, if_neg (by decide), ix7, ix7, ck_in (by omega) (by omega), let_eq, ck_in (by omega) (by omega), let_eq, nI_clamp (by omega), nI_clamp (by omega)]
theorem strB_eq {b a c : Nat} {μ : pm_M} (ha : a < 7) (hc : c < 7) : f_X2_strengthBetween b (nI a) (nI c) μ = some (μ (b + 1) (7 * a + c)) := by
  unfold f_X2_strengthBetween
  rw [farm_in ha, b_some, if_neg (by decide), farm_in hc, b_some, if_neg (by decide), ix7, ck_in (by omega) (by omega), nI_clamp (by omega)]
theorem milB_eq {b a c : Nat} {μ : pm_M} (ha : a < 7) (hc : c < 7) : f_X2_milesBetween b (nI a) (nI c) μ = some (μ (b + 2) (7 * a + c)) := by
  unfold f_X2_milesBetween
  rw [farm_in ha, b_some, if_neg (by decide), farm_in hc, b_some, if_neg (by decide), ix7, ck_in (by omega) (by omega), nI_clamp (by omega)]
theorem plc_eq {b a : Nat} {μ : pm_M} (ha : a < 7) : f_X2_placeOf b (nI a) μ = some (μ (b + 3) a) := by
  unfold f_X2_placeOf
  rw [farm_in ha, b_some, if_neg (by decide), ck_in (by omega) (by omega), nI_clamp (by omega)]
theorem cow_eq {b a : Nat} {μ : pm_M} (ha : a < 7) : f_X2_cowsOf b (nI a) μ = some (μ (b + 4) a) := by
  unfold f_X2_cowsOf
  rw [farm_in ha, b_some, if_neg (by decide), ck_in (by omega) (by omega), nI_clamp (by omega)]
theorem settle_eq {b a c : Nat} {v : Int32} {μ : pm_M} (ha : a < 7) (hc : c < 7) : f_X2_settle b (nI a) v (nI c) μ = some (pm_up (pm_up μ (b + 4) a v) (b + 3) a (nI c)) := by
  unfold f_X2_settle
  rw [farm_in ha, b_some, if_neg (by decide), farm_in hc, b_some, if_neg (by decide), ck_in (by omega) (by omega), let_eq, ck_in (by omega) (by omega), let_eq, nI_clamp (by omega)]
/-- the strength in a pair of places, both ways -/
def lay (B : Nat → Int32) (a c : Nat) (v : Int32) : Nat → Int32 := upd (upd B (7 * a + c) v) (7 * c + a) v
theorem lay_at {B : Nat → Int32} {a c i : Nat} {v : Int32} : lay B a c v i = if i = 7 * c + a then v else if i = 7 * a + c then v else B i := rfl
theorem lay_hi {B : Nat → Int32} {a c i : Nat} {v : Int32} (ha : a < 7) (hc : c < 7) (hi : 49 ≤ i) : lay B a c v i = B i := by
  rw [lay_at, if_neg (by omega), if_neg (by omega)]
theorem lay_ok {B R : Nat → Int32} {a c : Nat} {v : Int32} (ha : a < 7) (hc : c < 7) (hac : a ≠ c) (hv : okS v) (h : okB B R) : okB (lay B a c v) R := by
  obtain ⟨h1, h2, h3, h4, h5, h6, h7⟩ := h
  refine ⟨fun x y hx hy => ?_, fun x hx => ?_, fun i hi => ?_, fun f hf => ?_, fun f hf => ?_, ?_, h7⟩
  · rw [lay_at, lay_at]
    by_cases q1 : x = c ∧ y = a
    · obtain ⟨rfl, rfl⟩ := q1
      rw [if_pos rfl, if_neg (by omega), if_pos rfl]
    · by_cases q2 : x = a ∧ y = c
      · obtain ⟨rfl, rfl⟩ := q2
        rw [if_neg (by omega), if_pos rfl, if_pos rfl]
      · rw [if_neg (by omega), if_neg (by omega), if_neg (by omega), if_neg (by omega)]
        exact h1 x y hx hy
  · rw [lay_at, if_neg (by omega), if_neg (by omega)]
    exact h2 x hx
  · rw [lay_at]
    split
    · exact hv
    · split
      · exact hv
      · exact h3 i hi
  · rw [lay_hi ha hc (by omega)]; exact h4 f hf
  · rw [lay_hi ha hc (by omega)]; exact h5 f hf
  · rw [lay_hi ha hc (by omega)]; exact h6
theorem okS_of {x : Int32} (h1 : ¬ x < -1) (h2 : x ≤ 9) : okS (if 0 ≤ x then x else -6) := by
  by_cases h : 0 ≤ x
  · rw [if_pos h]
    obtain ⟨j, hj, e⟩ := nI_of2 (M := 9) (n := 9) (by decide) (Int32.not_lt.mpr h) h2
    exact Or.inr ⟨j, hj, e⟩
  · rw [if_neg h]
    exact Or.inl rfl
theorem neg6 : (-6 : Int32) < 0 := by decide
theorem po_rel {μ : pm_M} {B R : Nat → Int32} {hi : Int32} (hB : okB B R) (h52 : ∀ i, i < 49 → μ 52 i = B i) : f_X10_palesOf hi μ = some (nI (cpair B 0 hi)) := by
  rw [po_eq, sumf_congr (g := fun i => cbit 0 hi (B i)) 49 (fun k hk => by rw [h52 k hk]), pair_eq hB.1 (fun a ha => by rw [hB.2.1 a ha]; exact neg6)]
theorem cpair_congr {s t : Nat → Int32} {lo hi : Int32} (h : ∀ i, i < 49 → s i = t i) : cpair s lo hi = cpair t lo hi := by
  unfold cpair
  refine sumf_congr 7 (fun a ha => sumf_congr (6 - a) (fun k hk => ?_))
  rw [h _ (by omega)]
set_option maxHeartbeats 1000000 in
theorem okpale : ok_pale Rel := by
  intro a1 a2 a3 μ hR
  rcases in_or a1 (n := 7) (by omega) with h1 | ⟨a, ha, rfl⟩
  · refine ⟨-1, μ, μ, ?_, ?_, hR⟩
    · unfold f_X9_pale; rw [two_out1 h1, b_some, if_pos rfl]
    · unfold f_X10_pale; rw [m_farm_out h1, b_some, if_pos rfl]
  rcases in_or a2 (n := 7) (by omega) with h2 | ⟨c, hc, rfl⟩
  · refine ⟨-1, μ, μ, ?_, ?_, hR⟩
    · unfold f_X9_pale; rw [two_out2 ha h2, b_some, if_pos rfl]
    · unfold f_X10_pale; rw [m_farm_in ha, b_some, if_neg (by decide), m_farm_out h2, b_some, if_pos rfl]
  by_cases hac : a = c
  · subst hac
    refine ⟨-1, μ, μ, ?_, ?_, hR⟩
    · unfold f_X9_pale; rw [two_same ha, b_some, if_pos rfl]
    · unfold f_X10_pale; rw [m_farm_in ha, b_some, if_neg (by decide), b_some, if_neg (by decide), if_pos rfl]
  by_cases h3 : a3 < -1
  · refine ⟨-2, μ, μ, ?_, ?_, hR⟩
    · unfold f_X9_pale; rw [two_in ha hc hac, b_some, if_neg (by decide), if_pos h3]
    · unfold f_X10_pale; rw [m_farm_in ha, b_some, if_neg (by decide), m_farm_in hc, b_some, if_neg (by decide), if_neg (nI_ne hac (by omega) (by omega)), x10_in_lo h3, b_some, if_pos rfl]
  by_cases h4 : a3 ≤ 9
  · -- done
    generalize hv : (if 0 ≤ a3 then a3 else (-6 : Int32)) = v
    have hvS : okS v := by rw [← hv]; exact okS_of h3 h4
    obtain ⟨⟨⟨r1, r2, r3, r4, r5⟩, hok⟩, hR2, hR3, hR4, hR5, hR6⟩ := hR
    have hx : f_X9_pale (nI a) (nI c) a3 μ = some (nI (cpair (lay (μ 51) a c v) 0 9), pm_up (pm_up μ 3 (7 * a + c) v) 3 (7 * c + a) v) := by
      unfold f_X9_pale
      rw [two_in ha hc hac, b_some, if_neg (by decide), if_neg h3, if_pos h4]
      rw [jn_if, hv, setS_eq ha hc hac, b_some, cpales_eq, b_some]
      congr 3
      refine cpair_congr (fun i hi => ?_)
      show pm_up (pm_up μ 3 (7 * a + c) v) 3 (7 * c + a) v 3 i = _
      rw [up_r, up_r]
      unfold lay upd
      rw [r1 i hi]
    have hm : f_X10_pale (nI a) (nI c) a3 (pm_up (pm_up μ 3 (7 * a + c) v) 3 (7 * c + a) v) = some (nI (cpair (lay (μ 51) a c v) 0 9), pm_up (pm_up (pm_up (pm_row (pm_up (pm_up (pm_up (pm_up μ 3 (7 * a + c) v) 3 (7 * c + a) v) 51 (7 * a + c) v) 51 (7 * c + a) v) 52 (pre 64 (lay (μ 51) a c v) (μ 52))) 50 8 0) 50 9 (-6)) 50 10 (-6)) := by
      unfold f_X10_pale
      rw [m_farm_in ha, b_some, if_neg (by decide), m_farm_in hc, b_some, if_neg (by decide), if_neg (nI_ne hac (by omega) (by omega)), x10_in_in (Int32.not_lt.mp h3) h4, b_some, if_neg (by decide), jn_if, hv, ix7, ck_in (by omega) (by omega), let_eq, jn_if, hv, ix7, ck_in (by omega) (by omega), let_eq, nI_clamp (by omega), nI_clamp (by omega), asNow_eq, b_some]
      have e51 : pm_up (pm_up (pm_up (pm_up μ 3 (7 * a + c) v) 3 (7 * c + a) v) 51 (7 * a + c) v) 51 (7 * c + a) v 51 = lay (μ 51) a c v := by
        rw [up_r, up_r, up_o (by decide), up_o (by decide)]; rfl
      have e52 : pm_up (pm_up (pm_up (pm_up μ 3 (7 * a + c) v) 3 (7 * c + a) v) 51 (7 * a + c) v) 51 (7 * c + a) v 52 = μ 52 := by
        rw [up_o (by decide), up_o (by decide), up_o (by decide), up_o (by decide)]
      rw [e51, e52, po_rel (lay_ok ha hc hac hvS hok) (fun i hi => by rw [up_o (by decide), up_o (by decide), up_o (by decide), row_r, pre_lt (by omega)]), b_some]
    refine ⟨_, _, _, hx, hm, ?_⟩
    refine Rel_fr (μ := pm_up (pm_up (pm_up (pm_up μ 3 (7 * a + c) v) 3 (7 * c + a) v) 51 (7 * a + c) v) 51 (7 * c + a) v) (((((fr0.rf _).row rfl).up50 (by decide) (by decide)).up50 (by decide) (by decide)).up50 (by decide) (by decide)) ?_
    have ho : ∀ j, j ≠ 3 → j ≠ 51 → pm_up (pm_up (pm_up (pm_up μ 3 (7 * a + c) v) 3 (7 * c + a) v) 51 (7 * a + c) v) 51 (7 * c + a) v j = μ j := fun j g1 g2 => by rw [up_o g2, up_o g2, up_o g1, up_o g1]
    refine ⟨?_, R2_c (ho 8 (by decide) (by decide)) (ho 9 (by decide) (by decide)) (ho 54 (by decide) (by decide)) hR2, R3_c (ho 10 (by decide) (by decide)) (ho 11 (by decide) (by decide)) (ho 55 (by decide) (by decide)) (congrFun (ho 50 (by decide) (by decide)) 4) hR3, R4_c (ho 42 (by decide) (by decide)) (ho 43 (by decide) (by decide)) (ho 56 (by decide) (by decide)) (congrFun (ho 50 (by decide) (by decide)) 6) hR4, R5_c (fun j g1 g2 _ => ho j (by omega) (by omega)) (ho 66 (by decide) (by decide)) (ho 67 (by decide) (by decide)) hR5, R6_c (ho 49 (by decide) (by decide)) hR6⟩
    have e51 : pm_up (pm_up (pm_up (pm_up μ 3 (7 * a + c) v) 3 (7 * c + a) v) 51 (7 * a + c) v) 51 (7 * c + a) v 51 = lay (μ 51) a c v := by
      rw [up_r, up_r, up_o (by decide), up_o (by decide)]; rfl
    have e3 : pm_up (pm_up (pm_up (pm_up μ 3 (7 * a + c) v) 3 (7 * c + a) v) 51 (7 * a + c) v) 51 (7 * c + a) v 3 = lay (μ 3) a c v := by
      rw [up_o (by decide), up_o (by decide), up_r, up_r]; rfl
    unfold R1
    rw [e51, e3, ho 2 (by decide) (by decide), ho 4 (by decide) (by decide), ho 5 (by decide) (by decide), ho 6 (by decide) (by decide), ho 53 (by decide) (by decide)]
    refine ⟨⟨fun i hi => ?_, r2, fun f hf => ?_, fun f hf => ?_, ?_⟩, lay_ok ha hc hac hvS hok⟩
    · rw [lay_at, lay_at, r1 i hi]
    · rw [lay_hi ha hc (by omega)]; exact r3 f hf
    · rw [lay_hi ha hc (by omega)]; exact r4 f hf
    · rw [lay_hi ha hc (by omega)]; exact r5
  · refine ⟨-2, μ, μ, ?_, ?_, hR⟩
    · unfold f_X9_pale; rw [two_in ha hc hac, b_some, if_neg (by decide), if_neg h3, if_neg h4]
    · unfold f_X10_pale; rw [m_farm_in ha, b_some, if_neg (by decide), m_farm_in hc, b_some, if_neg (by decide), if_neg (nI_ne hac (by omega) (by omega)), x10_in_hi (Int32.not_le.mp h4), b_some, if_pos rfl]
