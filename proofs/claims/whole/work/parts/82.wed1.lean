/-! WEDDINGS: who has whom, by a code below 256 -/
def ch (c a : Nat) : Nat := c / 4 ^ a % 4
def inv4 (c o : Nat) : Nat := if ch c 0 = o then 0 else if ch c 1 = o then 1 else if ch c 2 = o then 2 else 3
def perm (c : Nat) : Bool := ch c (inv4 c 0) == 0 && ch c (inv4 c 1) == 1 && ch c (inv4 c 2) == 2 && ch c (inv4 c 3) == 3
def us (c : Nat) : Nat → Int32
  | 0 => 0
  | a + 1 => us c a ||| ((1 : Int32) <<< (nI (ch c a) &&& 31))
theorem c_tab : ∀ c, c < 256 → (us c 4 = 15 ↔ perm c = true) ∧ f_X1_hasEachOnce (nI c) = some (if perm c = true then 1 else 0) ∧ (∀ a, a < 4 → (nI c >>> (((2 : Int32) * nI a) &&& 31)) &&& (3 : Int32) = nI (ch c a) ∧ f_X1_partnerIn (nI c) (nI 0) (nI a) = some (nI (ch c a)) ∧ (perm c = true → f_X1_partnerIn (nI c) (nI 1) (nI a) = some (nI (inv4 c a)))) := by decide +kernel
theorem p_tab : ∀ c, c < 256 → perm c = true → ∀ a, a < 4 → ∀ o, o < 4 → (inv4 c o = a ↔ ch c a = o) := by decide +kernel
theorem ch_lt (c a : Nat) : ch c a < 4 := by unfold ch; omega
theorem inv_lt (c o : Nat) : inv4 c o < 4 := by
  unfold inv4
  split
  · omega
  · split
    · omega
    · split <;> omega
theorem pig4 : ∀ a, a < 4 → ∀ b, b < 4 → ∀ c, c < 4 → ∀ d, d < 4 → ∀ x, x < 4 → a ≠ b → a ≠ c → a ≠ d → b ≠ c → b ≠ d → c ≠ d → x = a ∨ x = b ∨ x = c ∨ x = d := by
  intro a ha b hb c hc d hd x hx h1 h2 h3 h4 h5 h6
  omega
theorem sur4 {d : Nat → Nat} (h1 : ∀ i, i < 4 → d i < 4) (h2 : ∀ i j, i < 4 → j < 4 → d i = d j → i = j) {x : Nat} (hx : x < 4) : ∃ i, i < 4 ∧ d i = x := by
  have n : ∀ i j, i < 4 → j < 4 → i ≠ j → d i ≠ d j := fun i j hi hj hne he => hne (h2 i j hi hj he)
  rcases pig4 (d 0) (h1 0 (by omega)) (d 1) (h1 1 (by omega)) (d 2) (h1 2 (by omega)) (d 3) (h1 3 (by omega)) x hx (n 0 1 (by omega) (by omega) (by omega)) (n 0 2 (by omega) (by omega) (by omega)) (n 0 3 (by omega) (by omega) (by omega)) (n 1 2 (by omega) (by omega) (by omega)) (n 1 3 (by omega) (by omega) (by omega)) (n 2 3 (by omega) (by omega) (by omega)) with h | h | h | h
  · exact ⟨0, by omega, h.symm⟩
  · exact ⟨1, by omega, h.symm⟩
  · exact ⟨2, by omega, h.symm⟩
  · exact ⟨3, by omega, h.symm⟩
/-- the place of one in another's row -/
def okRk (μ : pm_M) (rk : Nat → Nat → Nat → Nat) : Prop := (∀ s o x, s < 2 → o < 4 → x < 4 → rk s o x < 4 ∧ μ 9 (16 * s + 4 * o + x) = nI (rk s o x) ∧ ∀ m : pm_M, m 54 = μ 54 → f_X10_placeOf (nI s) (nI o) (nI x) m = some (nI (rk s o x))) ∧ (∀ s o x y, s < 2 → o < 4 → x < 4 → y < 4 → rk s o x = rk s o y → x = y)
theorem rk_of {μ : pm_M} (h : R2 μ) : ∃ rk, okRk μ rk := by
  have at_d : ∀ {s o : Nat} {d : Nat → Nat}, (∀ i, i < 4 → d i < 4 ∧ μ 54 (16 * s + 4 * o + i) = nI (d i) ∧ μ 9 (16 * s + 4 * o + d i) = nI i) → ∀ i, i < 4 → (μ 9 (16 * s + 4 * o + d i)).toNatClampNeg = i := fun hd i hi => by rw [(hd i hi).2.2, nI_clamp (by omega)]
  refine ⟨fun s o x => (μ 9 (16 * s + 4 * o + x)).toNatClampNeg, fun s o x hs ho hx => ?_, fun s o x y hs ho hx hy he => ?_⟩
  · obtain ⟨d, d1, d2, -⟩ := h s o hs ho
    obtain ⟨i, hi, rfl⟩ := sur4 (fun i hi => (d1 i hi).1) d2 hx
    dsimp only
    rw [at_d d1 i hi]
    refine ⟨hi, (d1 i hi).2.2, fun m hm => ?_⟩
    unfold f_X10_placeOf
    refine it_for (fun k => nI k) i (fun k hk T => ?_) (fun T => ?_) i 0 5000 (by omega) (by omega)
    · unfold f_X10_placeOf_b3
      rw [let_eq, ix16, ck_in (by omega) (by omega), nI_clamp (by omega), hm, (d1 k (by omega)).2.1, if_neg (nI_ne (fun q => by have := d2 k i (by omega) hi q; omega) (by have := (d1 k (by omega)).1; omega) (by omega)), nI_1]
    · unfold f_X10_placeOf_b3
      rw [let_eq, ix16, ck_in (by omega) (by omega), nI_clamp (by omega), hm, (d1 i hi).2.1, if_pos rfl]
  · obtain ⟨d, d1, d2, -⟩ := h s o hs ho
    obtain ⟨i, hi, rfl⟩ := sur4 (fun i hi => (d1 i hi).1) d2 hx
    obtain ⟨j, hj, rfl⟩ := sur4 (fun i hi => (d1 i hi).1) d2 hy
    dsimp only at he
    rw [at_d d1 i hi, at_d d1 j hj] at he
    rw [he]
section WD
variable {μ : pm_M} {rk : Nat → Nat → Nat → Nat} {c : Nat}
theorem x_rank (h : okRk μ rk) {s o x : Nat} (hs : s < 2) (ho : o < 4) (hx : x < 4) : f_X1_rankOf 7 (nI s) (nI o) (nI x) μ = some (nI (rk s o x)) := by
  unfold f_X1_rankOf
  rw [one_in hs ho, b_some, if_neg (by decide), one_in hs hx, b_some, if_neg (by decide), ix16, let_eq, ck_in (by omega) (by omega), nI_clamp (by omega)]
  exact congrArg some (h.1 s o x hs ho hx).2.1
def pt4 (c s o : Nat) : Nat := if s = 0 then ch c o else inv4 c o
theorem pt_lt (c s o : Nat) : pt4 c s o < 4 := by
  unfold pt4
  split
  · exact ch_lt c o
  · exact inv_lt c o
theorem x_part (hc : c < 256) (hp : perm c = true) {s o : Nat} (hs : s < 2) (ho : o < 4) : f_X1_partnerIn (nI c) (nI s) (nI o) = some (nI (pt4 c s o)) := by
  rcases (show s = 0 ∨ s = 1 by omega) with rfl | rfl
  · exact ((c_tab c hc).2.2 o ho).2.1
  · exact ((c_tab c hc).2.2 o ho).2.2 hp
theorem x_pref (h : okRk μ rk) (hc : c < 256) (hp : perm c = true) {s o x : Nat} (hs : s < 2) (ho : o < 4) (hx : x < 4) : f_X1_prefers 7 (nI c) (nI s) (nI o) (nI x) μ = some (if rk s o x < rk s o (pt4 c s o) then 1 else 0) := by
  have l1 := (h.1 s o x hs ho hx).1
  have l2 := (h.1 s o _ hs ho (pt_lt c s o)).1
  unfold f_X1_prefers
  rw [x_rank h hs ho hx, b_some, x_part hc hp hs ho, b_some, x_rank h hs ho (pt_lt c s o), b_some]
  by_cases g : rk s o x < rk s o (pt4 c s o)
  · rw [if_neg (nI_ge g (by omega)), if_pos g]
  · rw [if_pos (nI_le (by omega) (by omega)), if_neg g]
def bl (rk : Nat → Nat → Nat → Nat) (c a b : Nat) : Bool := decide (rk 0 a b < rk 0 a (ch c a)) && decide (rk 1 b a < rk 1 b (inv4 c b))
theorem bl_iff {a b : Nat} : bl rk c a b = true ↔ rk 0 a b < rk 0 a (ch c a) ∧ rk 1 b a < rk 1 b (inv4 c b) := by
  unfold bl
  rw [Bool.and_eq_true, decide_eq_true_eq, decide_eq_true_eq]
def stb (rk : Nat → Nat → Nat → Nat) (c : Nat) : Bool := perm c && (List.range 4).all (fun a => (List.range 4).all (fun b => !bl rk c a b))
theorem stb_iff : stb rk c = true ↔ perm c = true ∧ ∀ a, a < 4 → ∀ b, b < 4 → ¬ bl rk c a b = true := by
  unfold stb
  rw [Bool.and_eq_true, List.all_eq_true]
  refine ⟨fun h => ⟨h.1, fun a ha b hb q => ?_⟩, fun h => ⟨h.1, fun a ha => List.all_eq_true.mpr (fun b hb => ?_)⟩⟩
  · have := List.all_eq_true.mp (h.2 a (List.mem_range.mpr ha)) b (List.mem_range.mpr hb)
    rw [q] at this
    cases this
  · have := h.2 a (List.mem_range.mp ha) b (List.mem_range.mp hb)
    cases hq : bl rk c a b
    · rfl
    · exact absurd hq this
theorem st18 (h : okRk μ rk) (hc : c < 256) (hp : perm c = true) {a : Nat} (ha : a < 4) {E : Unit → Option Int32} (Q : Option Int32 → Prop) (hE : (∀ b, b < 4 → ¬ bl rk c a b = true) → Q (E ())) (h0 : ∀ b, b < 4 → bl rk c a b = true → Q (some 0)) : Q (pm_it (f_X1_isSteady_b18 7 (nI c) μ (nI a)) 5000 0 E) := by
  refine it_wp (fun k s => ∃ b, s = nI b ∧ b + k = 5 ∧ b ≤ 4 ∧ ∀ x, x < b → ¬ bl rk c a x = true) Q (fun s g => by obtain ⟨b, -, e1, e2, -⟩ := g; omega) (fun k s g T hT => ?_) 5000 5 _ (by omega) ⟨0, rfl, by omega, by omega, fun x hx => by omega⟩
  obtain ⟨b, rfl, e1, e2, e3⟩ := g
  unfold f_X1_isSteady_b18
  by_cases q : b = 4
  · subst q
    rw [if_pos (by decide)]
    exact hE e3
  have hb : b < 4 := by omega
  have next : ¬ bl rk c a b = true → Q (T (nI (b + 1))) := fun hn => hT _ ⟨b + 1, rfl, by omega, by omega, fun x hx => by
    rcases Nat.eq_or_lt_of_le (show x ≤ b by omega) with z | z
    · rw [z]; exact hn
    · exact e3 x z⟩
  rw [if_neg (show ¬ (4 : Int32) ≤ nI b from nI_ge (b := 4) hb (by omega)), show f_X1_prefers 7 (nI c) 0 (nI a) (nI b) μ = _ from x_pref h hc hp (s := 0) (by omega) ha hb, b_some, jn_eq, nI_1]
  by_cases g1 : rk 0 a b < rk 0 a (pt4 c 0 a)
  · rw [if_pos g1, if_neg (by decide), show f_X1_prefers 7 (nI c) 1 (nI b) (nI a) μ = _ from x_pref h hc hp (s := 1) (by omega) hb ha, b_some]
    by_cases g2 : rk 1 b a < rk 1 b (pt4 c 1 b)
    · rw [if_pos g2, if_neg (by decide)]
      exact h0 b hb (bl_iff.mpr ⟨g1, g2⟩)
    · rw [if_neg g2, if_pos rfl]
      exact next (fun z => g2 (bl_iff.mp z).2)
  · rw [if_neg g1, if_pos rfl]
    exact next (fun z => g1 (bl_iff.mp z).1)
theorem x_steady (h : okRk μ rk) (hc : c < 256) : f_X1_isSteady 7 (nI c) μ = some (if stb rk c = true then 1 else 0) := by
  unfold f_X1_isSteady
  rw [(c_tab c hc).2.1, b_some]
  by_cases hp : perm c = true
  · rw [if_pos hp, if_neg (by decide)]
    refine it_wp (fun k s => ∃ a, s = nI a ∧ a + k = 5 ∧ a ≤ 4 ∧ ∀ x, x < a → ∀ b, b < 4 → ¬ bl rk c x b = true) (fun o => o = some (if stb rk c = true then 1 else 0)) (fun s g => by obtain ⟨b, -, e1, e2, -⟩ := g; omega) (fun k s g T hT => ?_) 5000 5 _ (by omega) ⟨0, rfl, by omega, by omega, fun x hx => by omega⟩
    obtain ⟨a, rfl, e1, e2, e3⟩ := g
    unfold f_X1_isSteady_b11
    by_cases q : a = 4
    · subst q
      rw [if_pos (by decide), if_pos (stb_iff.mpr ⟨hp, e3⟩)]
    have ha : a < 4 := by omega
    rw [if_neg (show ¬ (4 : Int32) ≤ nI a from nI_ge (b := 4) ha (by omega)), nI_1]
    refine st18 h hc hp ha (fun o => o = some (if stb rk c = true then 1 else 0)) (fun hn => hT _ ⟨a + 1, rfl, by omega, by omega, fun x hx => ?_⟩) (fun b hb hq => by rw [if_neg (fun z => (stb_iff.mp z).2 a ha b hb hq)])
    rcases Nat.eq_or_lt_of_le (show x ≤ a by omega) with z | z
    · rw [z]; exact hn
    · exact e3 x z
  · rw [if_neg hp, if_pos rfl, if_neg (fun z => hp (stb_iff.mp z).1)]
end WD
