theorem sel4 (f : Nat → Nat) {i : Nat} (hi : i < 4) : f i = (if i = 0 then f 0 else 0) + (if i = 1 then f 1 else 0) + (if i = 2 then f 2 else 0) + (if i = 3 then f 3 else 0) := by
  rcases (show i = 0 ∨ i = 1 ∨ i = 2 ∨ i = 3 by omega) with rfl | rfl | rfl | rfl <;> simp
theorem swap4 {c : Nat} (hc : c < 256) (hp : perm c = true) (g : Nat → Nat → Nat) : g 0 (inv4 c 0) + g 1 (inv4 c 1) + g 2 (inv4 c 2) + g 3 (inv4 c 3) = g (ch c 0) 0 + g (ch c 1) 1 + g (ch c 2) 2 + g (ch c 3) 3 := by
  have e : ∀ a o, a < 4 → o < 4 → ∀ x : Nat, (if inv4 c o = a then x else 0) = (if ch c a = o then x else 0) := fun a o ha ho x => by
    have := p_tab c hc hp a ha o ho
    by_cases q : inv4 c o = a
    · rw [if_pos q, if_pos (this.mp q)]
    · rw [if_neg q, if_neg (fun z => q (this.mpr z))]
  rw [sel4 (g 0) (inv_lt c 0), sel4 (g 1) (inv_lt c 1), sel4 (g 2) (inv_lt c 2), sel4 (g 3) (inv_lt c 3), sel4 (fun o => g o 0) (ch_lt c 0), sel4 (fun o => g o 1) (ch_lt c 1), sel4 (fun o => g o 2) (ch_lt c 2), sel4 (fun o => g o 3) (ch_lt c 3)]
  rw [e 0 0 (by omega) (by omega), e 1 0 (by omega) (by omega), e 2 0 (by omega) (by omega), e 3 0 (by omega) (by omega), e 0 1 (by omega) (by omega), e 1 1 (by omega) (by omega), e 2 1 (by omega) (by omega), e 3 1 (by omega) (by omega), e 0 2 (by omega) (by omega), e 1 2 (by omega) (by omega), e 2 2 (by omega) (by omega), e 3 2 (by omega) (by omega), e 0 3 (by omega) (by omega), e 1 3 (by omega) (by omega), e 2 3 (by omega) (by omega), e 3 3 (by omega) (by omega)]
  omega
section WD3
variable {μ : pm_M} {rk : Nat → Nat → Nat → Nat} {c s : Nat}
def smk (rk : Nat → Nat → Nat → Nat) (s c n : Nat) : Nat := sumf (fun a => if s = 0 then rk 0 a (ch c a) else rk 1 (ch c a) a) n
theorem smk_eq (hc : c < 256) (hp : perm c = true) (hs : s < 2) : sumf (fun o => rk s o (pt4 c s o)) 4 = smk rk s c 4 := by
  rcases (show s = 0 ∨ s = 1 by omega) with rfl | rfl
  · rfl
  · have := swap4 hc hp (rk 1)
    show 0 + rk 1 0 (inv4 c 0) + rk 1 1 (inv4 c 1) + rk 1 2 (inv4 c 2) + rk 1 3 (inv4 c 3) = 0 + rk 1 (ch c 0) 0 + rk 1 (ch c 1) 1 + rk 1 (ch c 2) 2 + rk 1 (ch c 3) 3
    omega
theorem smk_le (h : okRk μ rk) : smk rk s c 4 ≤ 12 := by
  have := sumf_le (f := fun a => if s = 0 then rk 0 a (ch c a) else rk 1 (ch c a) a) 3 4 (fun k hk => by
    split
    · have := (h.1 0 k (ch c k) (by omega) hk (ch_lt c k)).1; omega
    · have := (h.1 1 (ch c k) k (by omega) (ch_lt c k) hk).1; omega)
  unfold smk
  omega
theorem x_sum (h : okRk μ rk) (hc : c < 256) (hp : perm c = true) (hs : s < 2) : f_X1_sumOfRanks 7 (nI c) (nI s) μ = some (nI (smk rk s c 4)) := by
  rw [← smk_eq hc hp hs]
  unfold f_X1_sumOfRanks
  refine it_for (fun k => (nI (sumf (fun o => rk s o (pt4 c s o)) k), nI k)) 4 (fun k hk T => ?_) (fun T => ?_) 4 0 5000 (by omega) (by omega)
  · show (if (4 : Int32) ≤ nI k then _ else _) = _
    rw [if_neg (show ¬ (4 : Int32) ≤ nI k from nI_ge (b := 4) hk (by omega))]
    dsimp only
    rw [x_part hc hp hs hk, b_some, x_rank h hs hk (pt_lt c s k), b_some, let_eq, nI_add, nI_1]
    rfl
  · rfl
/-- how many are steady, and the best so far -/
def cns (rk : Nat → Nat → Nat → Nat) : Nat → Nat
  | 0 => 0
  | c + 1 => if stb rk c = true then cns rk c + 1 else cns rk c
def upb (q : Option (Nat × Nat)) (c l : Nat) : Option (Nat × Nat) := match q with
  | none => some (c, l)
  | some (b, k) => if l < k then some (c, l) else some (b, k)
def bsf (rk : Nat → Nat → Nat → Nat) (s : Nat) : Nat → Option (Nat × Nat)
  | 0 => none
  | c + 1 => if stb rk c = true then upb (bsf rk s c) c (smk rk s c 4) else bsf rk s c
theorem bsf_ok (h : okRk μ rk) : ∀ c b l, bsf rk s c = some (b, l) → b < c ∧ stb rk b = true ∧ l ≤ 12
  | 0, b, l, e => by cases e
  | c + 1, b, l, e => by
    have ih := bsf_ok h c
    unfold bsf at e
    by_cases q : stb rk c = true
    · rw [if_pos q] at e
      cases hb : bsf rk s c with
      | none =>
        rw [hb] at e
        cases e
        exact ⟨by omega, q, smk_le h⟩
      | some z =>
        obtain ⟨b', l'⟩ := z
        rw [hb] at e
        have ih := ih b' l' hb
        unfold upb at e
        dsimp only at e
        by_cases g : smk rk s c 4 < l'
        · rw [if_pos g] at e
          cases e
          exact ⟨by omega, q, smk_le h⟩
        · rw [if_neg g] at e
          cases e
          exact ⟨by omega, ih.2⟩
    · rw [if_neg q] at e
      have := ih b l e
      exact ⟨by omega, this.2⟩
theorem bsf_some {b : Nat} (hb : stb rk b = true) : ∀ c, b < c → ∃ z, bsf rk s c = some z
  | 0, h => by omega
  | c + 1, h => by
    unfold bsf
    by_cases q : stb rk c = true
    · rw [if_pos q]
      unfold upb
      cases bsf rk s c with
      | none => exact ⟨_, rfl⟩
      | some z =>
        obtain ⟨b', l'⟩ := z
        dsimp only
        split
        · exact ⟨_, rfl⟩
        · exact ⟨_, rfl⟩
    · rw [if_neg q]
      refine bsf_some hb c ?_
      rcases Nat.eq_or_lt_of_le (show b ≤ c by omega) with z | z
      · exact absurd (z ▸ hb) q
      · exact z
theorem x_count (h : okRk μ rk) {M : Nat} (hM : M = 256) : f_X1_countSteady 7 μ = some (nI (cns rk M)) := by
  unfold f_X1_countSteady
  refine it_for (fun k => (nI (cns rk k), nI k)) M (fun k hk T => ?_) (fun T => ?_) M 0 5000 (by omega) (by omega)
  · show (if (256 : Int32) ≤ nI k then _ else _) = _
    rw [if_neg (show ¬ (256 : Int32) ≤ nI k from nI_ge (b := 256) (by omega) (by omega))]
    dsimp only
    rw [x_steady h (by omega), b_some, jn_eq, nI_1]
    have ec : cns rk (k + 1) = if stb rk k = true then cns rk k + 1 else cns rk k := rfl
    rw [ec]
    by_cases q : stb rk k = true
    · rw [if_pos q, if_neg (by decide), if_pos q, nI_1]
    · rw [if_neg q, if_pos rfl, if_neg q]
  · exact if_pos (show (256 : Int32) ≤ nI M by rw [hM]; decide)
def clB : Option (Nat × Nat) → Int32 × Int32
  | none => (228, 16)
  | some (b, l) => (nI b, nI l)
theorem x_best (h : okRk μ rk) (hs : s < 2) {M : Nat} (hM : M = 256) : f_X1_bestSteady 7 (nI s) μ = some (clB (bsf rk s M)).1 := by
  unfold f_X1_bestSteady
  refine it_for (fun k => ((clB (bsf rk s k)).1, (clB (bsf rk s k)).2, nI k)) M (fun k hk T => ?_) (fun T => ?_) M 0 5000 (by omega) (by omega)
  · show (if (256 : Int32) ≤ nI k then _ else _) = _
    rw [if_neg (show ¬ (256 : Int32) ≤ nI k from nI_ge (b := 256) (by omega) (by omega))]
    dsimp only
    rw [x_steady h (by omega), b_some, jn_eq, nI_1]
    have hle := smk_le (s := s) (c := k) h
    by_cases q : stb rk k = true
    · have eb : bsf rk s (k + 1) = upb (bsf rk s k) k (smk rk s k 4) := by
        show (if stb rk k = true then _ else _) = _
        rw [if_pos q]
      rw [if_pos q, if_neg (by decide), x_sum h (by omega) (stb_iff.mp q).1 hs, b_some, eb]
      have hok := bsf_ok (s := s) h k
      cases hb : bsf rk s k with
      | none =>
        rw [if_neg (show ¬ (clB none).2 ≤ nI (smk rk s k 4) from nI_ge (b := 16) (by omega) (by omega)), b_some]
        rfl
      | some z =>
        obtain ⟨b', l'⟩ := z
        have := hok b' l' hb
        unfold upb
        dsimp only
        by_cases g : smk rk s k 4 < l'
        · rw [if_neg (show ¬ (clB (some (b', l'))).2 ≤ nI (smk rk s k 4) from nI_ge g (by omega)), b_some, if_pos g]
          rfl
        · rw [if_pos (show (clB (some (b', l'))).2 ≤ nI (smk rk s k 4) from nI_le (by omega) (by omega)), if_neg g]
    · have eb : bsf rk s (k + 1) = bsf rk s k := by
        show (if stb rk k = true then _ else _) = _
        rw [if_neg q]
      rw [if_neg q, if_pos rfl, eb]
  · exact if_pos (show (256 : Int32) ≤ nI M by rw [hM]; decide)
end WD3
