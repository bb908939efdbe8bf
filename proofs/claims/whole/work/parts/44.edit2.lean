/-! what a part of the relation needs when only its own rows changed -/
theorem Rel_moor {μ ν : pm_M} (h : Rel μ) (ho : ∀ j, j ≠ 2 → j ≠ 3 → j ≠ 4 → j ≠ 5 → j ≠ 6 → j ≠ 51 → j ≠ 53 → ν j = μ j) (h1 : R1 ν) : Rel ν := by
  obtain ⟨-, h2, h3, h4, h5, h6⟩ := h
  have f := fun j (a : j ≠ 2) (b : j ≠ 3) (c : j ≠ 4) (d : j ≠ 5) (e : j ≠ 6) (g : j ≠ 51) (k : j ≠ 53) => ho j a b c d e g k
  refine ⟨h1, R2_c ?_ ?_ ?_ h2, R3_c ?_ ?_ ?_ (congrFun ?_ 4) h3, R4_c ?_ ?_ ?_ (congrFun ?_ 6) h4, R5_c (fun j a b _ => ?_) ?_ ?_ h5, R6_c ?_ h6⟩ <;> exact ho _ (by omega) (by omega) (by omega) (by omega) (by omega) (by omega) (by omega)
theorem Rel_pad {μ ν : pm_M} (h : Rel μ) (ho : ∀ j, j ≠ 42 → j ≠ 43 → j ≠ 56 → j ≠ 50 → ν j = μ j) (h50 : ν 50 4 = μ 50 4) (hp : R4 ν) : Rel ν := by
  obtain ⟨h1, h2, h3, -, h5, h6⟩ := h
  refine ⟨R1_c ?_ ?_ ?_ ?_ ?_ ?_ ?_ h1, R2_c ?_ ?_ ?_ h2, R3_c ?_ ?_ ?_ h50 h3, hp, R5_c (fun j a b _ => ?_) ?_ ?_ h5, R6_c ?_ h6⟩ <;> exact ho _ (by omega) (by omega) (by omega) (by omega)
theorem Rel_lik {μ ν : pm_M} (h : Rel μ) (ho : ∀ j, j ≠ 8 → j ≠ 9 → j ≠ 54 → ν j = μ j) (hp : R2 ν) : Rel ν := by
  obtain ⟨h1, -, h3, h4, h5, h6⟩ := h
  refine ⟨R1_c ?_ ?_ ?_ ?_ ?_ ?_ ?_ h1, hp, R3_c ?_ ?_ ?_ (congrFun ?_ 4) h3, R4_c ?_ ?_ ?_ (congrFun ?_ 6) h4, R5_c (fun j a b _ => ?_) ?_ ?_ h5, R6_c ?_ h6⟩ <;> exact ho _ (by omega) (by omega) (by omega)
theorem Rel_sig {μ ν : pm_M} (h : Rel μ) (ho : ∀ j, j ≠ 10 → j ≠ 11 → j ≠ 55 → j ≠ 50 → ν j = μ j) (h50 : ν 50 6 = μ 50 6) (hp : R3 ν) : Rel ν := by
  obtain ⟨h1, h2, -, h4, h5, h6⟩ := h
  refine ⟨R1_c ?_ ?_ ?_ ?_ ?_ ?_ ?_ h1, R2_c ?_ ?_ ?_ h2, hp, R4_c ?_ ?_ ?_ h50 h4, R5_c (fun j a b _ => ?_) ?_ ?_ h5, R6_c ?_ h6⟩ <;> exact ho _ (by omega) (by omega) (by omega) (by omega)
theorem num_of {x : Int32} {n : Nat} {M : Int32} (hM : M.toInt = n) (h1 : ¬ x < 0) (h2 : x ≤ M) : ∃ j : Nat, j ≤ n ∧ x = nI j := nI_of2 hM h1 h2
theorem okroad : ok_road Rel := by
  intro a1 a2 a3 μ hR
  rcases in_or a1 (n := 7) (by omega) with h1 | ⟨a, ha, rfl⟩
  · refine ⟨-1, μ, μ, ?_, ?_, hR⟩
    · unfold f_X9_road; rw [two_out1 h1, b_some, if_pos rfl]
    · unfold f_X10_road; rw [m_farm_out h1, b_some, if_pos rfl]
  rcases in_or a2 (n := 7) (by omega) with h2 | ⟨c, hc, rfl⟩
  · refine ⟨-1, μ, μ, ?_, ?_, hR⟩
    · unfold f_X9_road; rw [two_out2 ha h2, b_some, if_pos rfl]
    · unfold f_X10_road; rw [m_farm_in ha, b_some, if_neg (by decide), m_farm_out h2, b_some, if_pos rfl]
  by_cases hac : a = c
  · subst hac
    refine ⟨-1, μ, μ, ?_, ?_, hR⟩
    · unfold f_X9_road; rw [two_same ha, b_some, if_pos rfl]
    · unfold f_X10_road; rw [m_farm_in ha, b_some, if_neg (by decide), b_some, if_neg (by decide), if_pos rfl]
  by_cases h3 : a3 < 0
  · refine ⟨-2, μ, μ, ?_, ?_, hR⟩
    · unfold f_X9_road; rw [two_in ha hc hac, b_some, if_neg (by decide), if_pos h3]
    · unfold f_X10_road; rw [m_farm_in ha, b_some, if_neg (by decide), m_farm_in hc, b_some, if_neg (by decide), if_neg (nI_ne hac (by omega) (by omega)), x10_in_lo h3, b_some, if_pos rfl]
  by_cases h4 : a3 ≤ 9
  · obtain ⟨⟨⟨r1, r2, r3, r4, r5⟩, hok⟩, -⟩ := id hR
    refine ⟨μ 53 (7 * a + c), pm_up (pm_up μ 4 (7 * a + c) a3) 4 (7 * c + a) a3, pm_up (pm_up (pm_up (pm_up μ 4 (7 * a + c) a3) 4 (7 * c + a) a3) 53 (7 * a + c) a3) 53 (7 * c + a) a3, ?_, ?_, ?_⟩
    · unfold f_X9_road
      rw [two_in ha hc hac, b_some, if_neg (by decide), if_neg h3, if_pos h4, milB_eq ha hc, b_some, setM_eq ha hc hac, b_some, r2 _ (by omega)]
    · unfold f_X10_road
      rw [m_farm_in ha, b_some, if_neg (by decide), m_farm_in hc, b_some, if_neg (by decide), if_neg (nI_ne hac (by omega) (by omega)), x10_in_in (Int32.not_lt.mp h3) h4, b_some, if_neg (by decide), ix7, ix7, ck_in (by omega) (by omega), let_eq, ck_in (by omega) (by omega), let_eq, ck_in (by omega) (by omega), let_eq, nI_clamp (by omega), nI_clamp (by omega), up_o (by decide), up_o (by decide)]
    · have ho : ∀ j, j ≠ 4 → j ≠ 53 → pm_up (pm_up (pm_up (pm_up μ 4 (7 * a + c) a3) 4 (7 * c + a) a3) 53 (7 * a + c) a3) 53 (7 * c + a) a3 j = μ j := fun j g1 g2 => by rw [up_o g2, up_o g2, up_o g1, up_o g1]
      refine Rel_moor hR (fun j _ _ g _ _ _ g2 => ho j g g2) ?_
      have e53 : pm_up (pm_up (pm_up (pm_up μ 4 (7 * a + c) a3) 4 (7 * c + a) a3) 53 (7 * a + c) a3) 53 (7 * c + a) a3 53 = lay (μ 53) a c a3 := by
        rw [up_r, up_r, up_o (by decide), up_o (by decide)]; rfl
      have e4 : pm_up (pm_up (pm_up (pm_up μ 4 (7 * a + c) a3) 4 (7 * c + a) a3) 53 (7 * a + c) a3) 53 (7 * c + a) a3 4 = lay (μ 4) a c a3 := by
        rw [up_o (by decide), up_o (by decide), up_r, up_r]; rfl
      unfold R1
      rw [e53, e4, ho 2 (by decide) (by decide), ho 3 (by decide) (by decide), ho 5 (by decide) (by decide), ho 6 (by decide) (by decide), ho 51 (by decide) (by decide)]
      obtain ⟨k1, k2, k3, k4, k5, k6, k7, k8, k9⟩ := hok
      obtain ⟨v, hv, hv2⟩ := num_of (M := 9) (n := 9) (by decide) h3 h4
      refine ⟨⟨r1, fun i hi => ?_, r3, r4, r5⟩, k1, k2, k3, k4, k5, k6, fun x y hx hy => ?_, fun x hx => ?_, fun i hi => ?_⟩
      · rw [lay_at, lay_at, r2 i hi]
      · rw [lay_at, lay_at]
        by_cases q1 : x = c ∧ y = a
        · obtain ⟨rfl, rfl⟩ := q1
          rw [if_pos rfl, if_neg (by omega), if_pos rfl]
        · by_cases q2 : x = a ∧ y = c
          · obtain ⟨rfl, rfl⟩ := q2
            rw [if_neg (by omega), if_pos rfl, if_pos rfl]
          · rw [if_neg (by omega), if_neg (by omega), if_neg (by omega), if_neg (by omega)]
            exact k7 x y hx hy
      · rw [lay_at, if_neg (by omega), if_neg (by omega)]
        exact k8 x hx
      · rw [lay_at]
        split
        · exact ⟨v, hv, hv2⟩
        · split
          · exact ⟨v, hv, hv2⟩
          · exact k9 i hi
  · refine ⟨-2, μ, μ, ?_, ?_, hR⟩
    · unfold f_X9_road; rw [two_in ha hc hac, b_some, if_neg (by decide), if_neg h3, if_neg h4]
    · unfold f_X10_road; rw [m_farm_in ha, b_some, if_neg (by decide), m_farm_in hc, b_some, if_neg (by decide), if_neg (nI_ne hac (by omega) (by omega)), x10_in_hi (Int32.not_le.mp h4), b_some, if_pos rfl]
theorem i49 (a : Nat) : (49 : Int32) + nI a = nI (49 + a) := nI_add 49 a
theorem i56 (a : Nat) : (56 : Int32) + nI a = nI (56 + a) := nI_add 56 a
theorem okfarm : ok_farm Rel := by
  intro a1 a2 a3 μ hR
  rcases in_or a1 (n := 7) (by omega) with h1 | ⟨a, ha, rfl⟩
  · refine ⟨-1, μ, μ, ?_, ?_, hR⟩
    · unfold f_X9_farm; rw [farm_out h1, b_some, if_pos rfl]
    · unfold f_X10_farm; rw [m_farm_out h1, b_some, if_pos rfl]
  rcases in_or a3 (n := 7) (by omega) with h2 | ⟨c, hc, rfl⟩
  · refine ⟨-1, μ, μ, ?_, ?_, hR⟩
    · unfold f_X9_farm; rw [farm_in ha, b_some, if_neg (by decide), farm_out h2, b_some, if_pos rfl]
    · unfold f_X10_farm; rw [m_farm_in ha, b_some, if_neg (by decide), m_farm_out h2, b_some, if_pos rfl]
  by_cases h3 : a2 < 0
  · refine ⟨-2, μ, μ, ?_, ?_, hR⟩
    · unfold f_X9_farm; rw [farm_in ha, b_some, if_neg (by decide), farm_in hc, b_some, if_neg (by decide), if_pos h3]
    · unfold f_X10_farm; rw [m_farm_in ha, b_some, if_neg (by decide), m_farm_in hc, b_some, if_neg (by decide), x10_in_lo h3, b_some, if_pos rfl]
  by_cases h4 : a2 ≤ 99
  · obtain ⟨⟨⟨r1, r2, r3, r4, r5⟩, hok⟩, -⟩ := id hR
    refine ⟨μ 51 (49 + a), pm_up (pm_up μ 6 a a2) 5 a (nI c), pm_up (pm_up (pm_up (pm_up μ 6 a a2) 5 a (nI c)) 51 (49 + a) (nI c)) 51 (56 + a) a2, ?_, ?_, ?_⟩
    · unfold f_X9_farm
      rw [farm_in ha, b_some, if_neg (by decide), farm_in hc, b_some, if_neg (by decide), if_neg h3, if_pos h4, plc_eq ha, b_some, settle_eq ha hc, b_some, r3 _ ha]
    · unfold f_X10_farm
      rw [m_farm_in ha, b_some, if_neg (by decide), m_farm_in hc, b_some, if_neg (by decide), x10_in_in (Int32.not_lt.mp h3) h4, b_some, if_neg (by decide), i49, i56, ck_in (by omega) (by omega), let_eq, ck_in (by omega) (by omega), let_eq, ck_in (by omega) (by omega), let_eq, nI_clamp (by omega), nI_clamp (by omega), up_o (by decide), up_o (by decide)]
    · have ho : ∀ j, j ≠ 5 → j ≠ 6 → j ≠ 51 → pm_up (pm_up (pm_up (pm_up μ 6 a a2) 5 a (nI c)) 51 (49 + a) (nI c)) 51 (56 + a) a2 j = μ j := fun j g1 g2 g3 => by rw [up_o g3, up_o g3, up_o g1, up_o g2]
      refine Rel_moor hR (fun j _ _ _ g5 g6 g51 _ => ho j g5 g6 g51) ?_
      have e51 : pm_up (pm_up (pm_up (pm_up μ 6 a a2) 5 a (nI c)) 51 (49 + a) (nI c)) 51 (56 + a) a2 51 = upd (upd (μ 51) (49 + a) (nI c)) (56 + a) a2 := by
        rw [up_r, up_r, up_o (by decide), up_o (by decide)]
      have e5 : pm_up (pm_up (pm_up (pm_up μ 6 a a2) 5 a (nI c)) 51 (49 + a) (nI c)) 51 (56 + a) a2 5 = upd (μ 5) a (nI c) := by
        rw [up_o (by decide), up_o (by decide), up_r, up_o (by decide)]
      have e6 : pm_up (pm_up (pm_up (pm_up μ 6 a a2) 5 a (nI c)) 51 (49 + a) (nI c)) 51 (56 + a) a2 6 = upd (μ 6) a a2 := by
        rw [up_o (by decide), up_o (by decide), up_o (by decide), up_r]
      unfold R1
      rw [e51, e5, e6, ho 2 (by decide) (by decide) (by decide), ho 3 (by decide) (by decide) (by decide), ho 4 (by decide) (by decide) (by decide), ho 53 (by decide) (by decide) (by decide)]
      obtain ⟨k1, k2, k3, k4, k5, k6, k7⟩ := hok
      obtain ⟨v, hv, hv2⟩ := num_of (M := 99) (n := 99) (by decide) h3 h4
      have lo : ∀ i, i < 49 → upd (upd (μ 51) (49 + a) (nI c)) (56 + a) a2 i = μ 51 i := fun i hi => by rw [upd_n (by omega), upd_n (by omega)]
      refine ⟨⟨fun i hi => ?_, r2, fun f hf => ?_, fun f hf => ?_, ?_⟩, fun x y hx hy => ?_, fun x hx => ?_, fun i hi => ?_, fun f hf => ?_, fun f hf => ?_, ?_, k7⟩
      · rw [lo i hi]; exact r1 i hi
      · rw [upd_n (show 49 + f ≠ 56 + a by omega)]
        by_cases q : f = a
        · subst q; rw [upd_s, upd_s]
        · rw [upd_n q, upd_n (by omega)]; exact r3 f hf
      · by_cases q : f = a
        · subst q; rw [upd_s, upd_s]
        · rw [upd_n q, upd_n (by omega), upd_n (by omega)]; exact r4 f hf
      · rw [upd_n (by omega), upd_n (by omega)]; exact r5
      · rw [lo _ (by omega), lo _ (by omega)]; exact k1 x y hx hy
      · rw [lo _ (by omega)]; exact k2 x hx
      · rw [lo i hi]; exact k3 i hi
      · rw [upd_n (show 49 + f ≠ 56 + a by omega)]
        by_cases q : f = a
        · subst q; rw [upd_s]; exact ⟨c, hc, rfl⟩
        · rw [upd_n (by omega)]; exact k4 f hf
      · by_cases q : f = a
        · subst q; rw [upd_s]; exact ⟨v, hv, hv2⟩
        · rw [upd_n (by omega), upd_n (by omega)]; exact k5 f hf
      · rw [upd_n (by omega), upd_n (by omega)]; exact k6
  · refine ⟨-2, μ, μ, ?_, ?_, hR⟩
    · unfold f_X9_farm; rw [farm_in ha, b_some, if_neg (by decide), farm_in hc, b_some, if_neg (by decide), if_neg h3, if_neg h4]
    · unfold f_X10_farm; rw [m_farm_in ha, b_some, if_neg (by decide), m_farm_in hc, b_some, if_neg (by decide), x10_in_hi (Int32.not_le.mp h4), b_some, if_pos rfl]
/-! the pad -/
theorem oksay : ok_say Rel := by
  intro a1 μ hR
  by_cases h1 : a1 < 33
  · refine ⟨-2, μ, μ, ?_, ?_, hR⟩
    · unfold f_X9_say; rw [if_pos h1]
    · unfold f_X10_say; rw [x10_in_lo h1, b_some, if_pos rfl]
  by_cases h2 : a1 ≤ 126
  · obtain ⟨N, hN, e1, e2, hp⟩ := hR.2.2.2.1
    obtain ⟨v, hv, hv2⟩ := num_of (M := 126) (n := 126) (x := a1) (by decide) (fun q => h1 (Int32.lt_trans q (by decide))) h2
    have hv33 : 33 ≤ v := by
      rcases Nat.lt_or_ge v 33 with q | q
      · exact absurd (by rw [hv2]; exact nI_lt (b := 33) q (by omega)) h1
      · exact q
    by_cases hf : N = 60
    · refine ⟨-4, μ, μ, ?_, ?_, hR⟩
      · unfold f_X9_say f_X3_add
        rw [if_neg h1, if_pos h2, e1, hf, if_neg (by decide), b_some]
        rfl
      · unfold f_X10_say
        rw [x10_in_in (Int32.not_lt.mp h1) h2, b_some, if_neg (by decide), e2, hf, if_pos (by decide)]
    · have hN2 : N < 60 := by omega
      refine ⟨nI (N + 1), pm_up (pm_up μ 43 N a1) 42 1 (nI (N + 1)), pm_up (pm_up (pm_up (pm_up μ 43 N a1) 42 1 (nI (N + 1))) 56 N a1) 50 6 (nI (N + 1)), ?_, ?_, ?_⟩
      · unfold f_X9_say f_X3_add f_X3_size
        rw [if_neg h1, if_pos h2, e1, if_pos (show nI N < (60 : Int32) from nI_lt (b := 60) hN2 (by omega)), ck_in hN2 (by omega), let_eq, nI_clamp (by omega), let_eq, b_some]
        dsimp only
        rw [if_neg (by decide), b_some, up_o (show 42 ≠ 43 by decide), e1, nI_1, up_r, upd_s]
      · unfold f_X10_say
        have e3 : pm_up (pm_up μ 43 N a1) 42 1 (nI (N + 1)) 50 6 = nI N := by rw [up_o (by decide), up_o (by decide), e2]
        rw [x10_in_in (Int32.not_lt.mp h1) h2, b_some, if_neg (by decide), e3, if_neg (show ¬ nI N = (60 : Int32) from nI_ne (a := N) (c := 60) hf (by omega) (by omega)), ck_in hN2 (by omega), let_eq, nI_clamp (by omega), let_eq, up_o (show 50 ≠ 56 by decide), e3, nI_1, up_r, upd_s]
      · have ho : ∀ j, j ≠ 42 → j ≠ 43 → j ≠ 56 → j ≠ 50 → pm_up (pm_up (pm_up (pm_up μ 43 N a1) 42 1 (nI (N + 1))) 56 N a1) 50 6 (nI (N + 1)) j = μ j := fun j g1 g2 g3 g4 => by rw [up_o g4, up_o g3, up_o g1, up_o g2]
        refine Rel_pad hR ho ?_ ?_
        · rw [up_r, upd_n (by decide), up_o (by decide), up_o (by decide), up_o (by decide)]
        · unfold R4
          refine ⟨N + 1, by omega, ?_, ?_, fun i hi => ?_⟩
          · rw [up_o (by decide), up_o (by decide), up_r, upd_s]
          · rw [up_r, upd_s]
          · rw [up_o (show 43 ≠ 50 by decide), up_o (show 43 ≠ 56 by decide), up_o (show 43 ≠ 42 by decide), up_r, up_o (show 56 ≠ 50 by decide), up_r, up_o (show 56 ≠ 42 by decide), up_o (show 56 ≠ 43 by decide)]
            by_cases q : i = N
            · subst q
              rw [upd_s, upd_s]
              exact ⟨rfl, v, hv33, hv, hv2⟩
            · rw [upd_n q, upd_n q]
              exact hp i (by omega)
  · refine ⟨-2, μ, μ, ?_, ?_, hR⟩
    · unfold f_X9_say; rw [if_neg h1, if_neg h2]
    · unfold f_X10_say; rw [x10_in_hi (Int32.not_le.mp h2), b_some, if_pos rfl]
theorem okwipe : ok_wipe Rel := by
  intro μ hR
  obtain ⟨N, hN, e1, e2, hp⟩ := hR.2.2.2.1
  refine ⟨nI N, pm_up μ 42 1 0, pm_up (pm_up μ 42 1 0) 50 6 0, ?_, ?_, ?_⟩
  · unfold f_X9_wipe f_X3_size f_X3_clear
    rw [b_some, let_eq, b_some, e1]
  · unfold f_X10_wipe
    rw [let_eq, let_eq, up_o (by decide), e2]
  · refine Rel_pad hR (fun j g1 g2 g3 g4 => by rw [up_o g4, up_o g1]) ?_ ?_
    · rw [up_r, upd_n (by decide), up_o (by decide)]
    · unfold R4
      refine ⟨0, by omega, ?_, ?_, fun i hi => by omega⟩
      · rw [up_o (by decide), up_r, upd_s]; rfl
      · rw [up_r, upd_s]; rfl
