theorem i1000 : (1000 : Int32) = nI 1000 := by decide
theorem i1000000 : (1000000 : Int32) = nI 1000000 := by decide
def c0 (r : Nat → Nat) (a i : Nat) : Nat := if i / 7 < a then ap0 1000 r i else if r i = 0 then 1000 else r i
def okr9 (m : pm_M) (j : Nat) (r : Nat → Nat) : Prop := (∀ i, r i ≤ 9) ∧ ∀ i, i < 49 → m j i = nI (r i)
section WY3
variable {m w : pm_M} {r : Nat → Nat}
theorem c0_val {a k : Nat} (hk : k < 7) (hr : r (7 * a + k) ≤ 9) : (if nI (r (7 * a + k)) ≤ 0 then (1000 : Int32) else nI (r (7 * a + k))) = nI (c0 r a (7 * a + k)) := by
  unfold c0
  rw [if_neg (show ¬ (7 * a + k) / 7 < a by omega)]
  by_cases q : r (7 * a + k) = 0
  · rw [if_pos q, q, if_pos (by decide), i1000]
  · rw [if_neg q, if_neg (nI_nle (by omega) (by omega))]
theorem me10 (h : okr9 m 4 r) {a : Nat} (ha : a < 7) {E : pm_M → Option pm_M} : pm_it (f_X5_measure_b10 (nI a, w)) 5000 (0, pm_row m 46 (pre (7 * a) (fun i => nI (c0 r a i)) (m 46))) E = E (pm_row m 46 (pre (7 * a + 7) (fun i => nI (c0 r a i)) (m 46))) := by
  refine it_for (fun k => (nI k, pm_row m 46 (pre (7 * a + k) (fun i => nI (c0 r a i)) (m 46)))) 7 (fun k hk T => ?_) (fun T => ?_) 7 0 5000 (by omega) (by omega)
  · unfold f_X5_measure_b10
    dsimp only
    rw [if_neg (show ¬ (7 : Int32) ≤ nI k from nI_ge (b := 7) hk (by omega)), milB_eq ha hk, b_some, jn_if, row_o (show 2 + 2 ≠ 46 by decide), show m (2 + 2) (7 * a + k) = nI (r (7 * a + k)) from h.2 _ (by omega), c0_val hk (h.1 _), ix7, ck_in (by omega) (by omega), nI_clamp (by omega), let_eq, up_row, pre_s (7 * a + k) (fun i => nI (c0 r a i)), nI_1]
    rfl
  · unfold f_X5_measure_b10
    dsimp only
    rw [if_pos (by decide)]
theorem c0_diag {a : Nat} (ha : a < 7) (f : Nat → Int32) : upd (pre (7 * a + 7) (fun i => nI (c0 r a i)) f) (7 * a + a) 0 = pre (7 * (a + 1)) (fun i => nI (c0 r (a + 1) i)) f := by
  funext i
  by_cases q : i = 7 * a + a
  · subst q
    rw [upd_s, pre_lt (by omega)]
    unfold c0 ap0
    rw [if_pos (by omega), if_pos (by omega)]
    rfl
  · rw [upd_n q]
    unfold pre
    by_cases z : i < 7 * a + 7
    · rw [if_pos z, if_pos (by omega)]
      show nI (c0 r a i) = nI (c0 r (a + 1) i)
      congr 1
      unfold c0
      by_cases y : i / 7 < a
      · rw [if_pos y, if_pos (by omega)]
      · rw [if_neg y, if_pos (show i / 7 < a + 1 by omega)]
        unfold ap0
        rw [if_neg (show ¬ i / 7 = i % 7 by omega)]
    · rw [if_neg z, if_neg (by omega)]
theorem me_init (h : okr9 m 4 r) {E : pm_M → Option pm_M} : pm_it f_X5_measure_b2 5000 (0, m) E = E (RW m 46 (ap0 1000 r)) := by
  refine it_for (fun a => (nI a, pm_row m 46 (pre (7 * a) (fun i => nI (c0 r a i)) (m 46)))) 7 (fun a ha T => ?_) (fun T => ?_) 7 0 5000 (by omega) (by omega) |> fun h => (by rw [Nat.mul_zero, pre_0, row_id] at h; exact h)
  · unfold f_X5_measure_b2
    dsimp only
    rw [if_neg (show ¬ (7 : Int32) ≤ nI a from nI_ge (b := 7) ha (by omega)), me10 h ha, ix7, ck_in (by omega) (by omega), nI_clamp (by omega), let_eq, up_row, c0_diag ha, nI_1]
  · unfold f_X5_measure_b2
    dsimp only
    rw [if_pos (by decide)]
    have e : pm_row m 46 (pre (7 * 7) (fun i => nI (c0 r 7 i)) (m 46)) = RW m 46 (ap0 1000 r) := RW_cg (g := c0 r 7) (g' := ap0 1000 r) (fun i hi => if_pos (by omega))
    rw [e]
theorem measure_eq (h : okr9 m 4 r) {K : Nat} (hK : K = 7) : f_X5_measure m = some (RW m 46 (ap 1000 r K)) := by
  unfold f_X5_measure
  rw [me_init h]
  refine it_for (fun v => (nI v, RW m 46 (ap 1000 r v))) K (fun v hv T => ?_) (fun T => ?_) K 0 5000 (by omega) (by omega)
  · unfold f_X5_measure_b74
    dsimp only
    rw [if_neg (show ¬ (7 : Int32) ≤ nI v from nI_ge (b := 7) (by omega) (by omega)), sh_eq (ap_d 1000 r v v (by omega)) (ap_le h.1 (by omega) v) (by omega), b_some, nI_1]
    rfl
  · unfold f_X5_measure_b74
    dsimp only
    rw [if_pos (show (7 : Int32) ≤ nI K by rw [hK]; decide)]
theorem apa_init (h : okr9 m 53 r) {E : pm_M → Option pm_M} : pm_it f_X10_layApart_b2 5000 (0, m) E = E (RW m 58 (ap0 1000000 r)) := by
  refine it_for (fun k => (nI k, pm_row m 58 (pre k (fun i => nI (ap0 1000000 r i)) (m 58)))) 49 (fun k hk T => ?_) (fun T => ?_) 49 0 5000 (by omega) (by omega) |> fun h => (by rw [pre_0, row_id] at h; exact h)
  · unfold f_X10_layApart_b2
    dsimp only
    have hv : m 53 k = nI (r k) := h.2 k hk
    have h9 := h.1 k
    have key : ∀ x, x = nI (ap0 1000000 r k) → pm_ck (nI k) 49 (pm_let (pm_up (pm_row m 58 (pre k (fun i => nI (ap0 1000000 r i)) (m 58))) 58 (nI k).toNatClampNeg x) (fun m2 => T (nI k + 1, m2))) = T (nI (k + 1), pm_row m 58 (pre (k + 1) (fun i => nI (ap0 1000000 r i)) (m 58))) := fun x hx => by
      rw [ck_in hk (by omega), nI_clamp (by omega), let_eq, hx, up_row, pre_s k (fun i => nI (ap0 1000000 r i)), nI_1]
    rw [if_neg (show ¬ (49 : Int32) ≤ nI k from nI_ge (b := 49) hk (by omega)), jn_eq, d7 (by omega), r7 (by omega)]
    by_cases q : k / 7 = k % 7
    · rw [if_pos (by rw [q])]
      exact key 0 (by unfold ap0; rw [if_pos q]; rfl)
    · have hv' : pm_row m 58 (pre k (fun i => nI (ap0 1000000 r i)) (m 58)) 53 (nI k).toNatClampNeg = nI (r k) := by rw [row_o (by decide), nI_clamp (by omega), hv]
      rw [if_neg (nI_ne q (by omega) (by omega)), ck_in hk (by omega)]
      by_cases z : r k = 0
      · rw [if_pos (by rw [hv', z]; decide)]
        exact key _ (by unfold ap0; rw [if_neg q, if_pos z, i1000000])
      · rw [if_neg (by rw [hv']; exact nI_nle (by omega) (by omega)), ck_in hk (by omega)]
        exact key _ (by rw [hv']; unfold ap0; rw [if_neg q, if_neg z])
  · unfold f_X10_layApart_b2
    dsimp only
    rw [if_pos (by decide)]
    rfl
theorem apart_eq (h : okr9 m 53 r) {K : Nat} (hK : K = 7) : f_X10_layApart m = some (RW m 58 (ap 1000000 r K)) := by
  unfold f_X10_layApart
  rw [apa_init h]
  refine it_for (fun v => (nI v, RW m 58 (ap 1000000 r v))) K (fun v hv T => ?_) (fun T => ?_) K 0 5000 (by omega) (by omega)
  · unfold f_X10_layApart_b57
    dsimp only
    rw [if_neg (show ¬ (7 : Int32) ≤ nI v from nI_ge (b := 7) (by omega) (by omega)), ap65 (ap_d 1000000 r v v (by omega)) (ap_le h.1 (by omega) v) (by omega), nI_1]
    rfl
  · unfold f_X10_layApart_b57
    dsimp only
    rw [if_pos (show (7 : Int32) ≤ nI K by rw [hK]; decide)]
end WY3
/-- the miles of both, as numbers -/
def rof (μ : pm_M) : Nat → Nat := fun i => if i < 49 then (μ 53 i).toNatClampNeg else 0
theorem rof_ok {μ : pm_M} (h : R1 μ) : okr9 μ 53 (rof μ) ∧ okr9 μ 4 (rof μ) := by
  obtain ⟨⟨-, h2, -, -, -⟩, -, -, -, -, -, -, -, -, h9⟩ := h
  have a : ∀ i, i < 49 → rof μ i ≤ 9 ∧ μ 53 i = nI (rof μ i) := fun i hi => by
    obtain ⟨k, hk, e⟩ := h9 i hi
    unfold rof
    rw [if_pos hi, e, nI_clamp (by omega)]
    exact ⟨hk, rfl⟩
  have b : ∀ i, rof μ i ≤ 9 := fun i => by
    by_cases hi : i < 49
    · exact (a i hi).1
    · unfold rof
      rw [if_neg hi]
      omega
  exact ⟨⟨b, fun i hi => (a i hi).2⟩, b, fun i hi => (h2 i hi).trans (a i hi).2⟩
theorem RW_fr {m : pm_M} {j : Nat} {g : Nat → Nat} (hj : scr j = true) : fr0 m (RW m j g) := (fr0.rf m).row hj
theorem okround : ok_round Rel := by
  intro p1 p2 μ hR
  obtain ⟨K, hK⟩ : ∃ K : Nat, K = 7 := ⟨7, rfl⟩
  obtain ⟨r53, r4⟩ := rof_ok hR.1
  unfold f_X9_round
  rcases in_or p1 (n := 7) (by omega) with h | ⟨a, ha, rfl⟩
  · exact ⟨-1, μ, μ, by rw [farm_out h, b_some, if_pos rfl], by unfold f_X10_round; rw [m_farm_out h, b_some, if_pos rfl], hR⟩
  rw [farm_in ha, b_some, if_neg (by decide)]
  rcases in_or p2 (n := 7) (by omega) with h | ⟨b, hb, rfl⟩
  · exact ⟨-1, μ, μ, by rw [farm_out h, b_some, if_pos rfl], by unfold f_X10_round; rw [m_farm_in ha, b_some, if_neg (by decide), m_farm_out h, b_some, if_pos rfl], hR⟩
  rw [farm_in hb, b_some, if_neg (by decide), measure_eq r4 hK, b_some]
  have r53' : okr9 (RW μ 46 (ap 1000 (rof μ) K)) 53 (rof μ) := ⟨r53.1, fun i hi => by rw [RW_o (by decide)]; exact r53.2 i hi⟩
  have hc := ap_cap r53.1 K (7 * a + b)
  have hle := ap_le (F := 1000000) r53.1 (by omega) K (7 * a + b)
  have h54 := ap_54 (F := 1000000) hK r53.1 (by omega) (i := 7 * a + b) (by omega)
  have hfr : Rel (RW (RW μ 46 (ap 1000 (rof μ) K)) 58 (ap 1000000 (rof μ) K)) := Rel_fr ((RW_fr rfl).tr (RW_fr rfl)) hR
  unfold f_X5_between f_X5_milesOrNone
  rw [farm_in ha, b_some, if_neg (by decide), farm_in hb, b_some, if_neg (by decide), ix7, ck_in (by omega) (by omega), nI_clamp (by omega), RW_at (by omega)]
  by_cases q : ap 1000000 (rof μ) K (7 * a + b) < 1000000
  · have h5 := h54 q
    refine ⟨nI (ap 1000 (rof μ) K (7 * a + b)), _, _, by rw [if_neg (show ¬ (1000 : Int32) ≤ _ by rw [i1000]; exact nI_ge (by omega) (by omega)), b_some, b_some], ?_, hfr⟩
    unfold f_X10_round
    rw [m_farm_in ha, b_some, if_neg (by decide), m_farm_in hb, b_some, if_neg (by decide), apart_eq r53' hK, b_some, ix7, ck_in (by omega) (by omega), nI_clamp (by omega), RW_at (by omega), if_neg (show ¬ (1000000 : Int32) ≤ _ by rw [i1000000]; exact nI_ge (by omega) (by omega)), ck_in (by omega) (by omega), hc, Nat.min_eq_left (by omega)]
  · refine ⟨-6, _, _, by rw [if_pos (show (1000 : Int32) ≤ _ by rw [i1000]; exact nI_le (by omega) (by omega)), b_some, b_some], ?_, hfr⟩
    unfold f_X10_round
    rw [m_farm_in ha, b_some, if_neg (by decide), m_farm_in hb, b_some, if_neg (by decide), apart_eq r53' hK, b_some, ix7, ck_in (by omega) (by omega), nI_clamp (by omega), RW_at (by omega), if_pos (show (1000000 : Int32) ≤ _ by rw [i1000000]; exact nI_le (by omega) (by omega))]
