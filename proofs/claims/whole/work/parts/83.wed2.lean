/-! a steady wedding is always there: each is refused at most three times -/
section GS
variable {rk : Nat → Nat → Nat → Nat}
def okr (rk : Nat → Nat → Nat → Nat) : Prop := (∀ s o x, s < 2 → o < 4 → x < 4 → rk s o x < 4) ∧ (∀ s o x y, s < 2 → o < 4 → x < 4 → y < 4 → rk s o x = rk s o y → x = y)
def safe (rk : Nat → Nat → Nat → Nat) (p : Nat → Nat) : Prop := (∀ m, m < 4 → p m < 4) ∧ ∀ m w, m < 4 → w < 4 → rk 0 m w < rk 0 m (p m) → ∃ m', m' < 4 ∧ p m' = w ∧ rk 1 w m' < rk 1 w m
def sumr (rk : Nat → Nat → Nat → Nat) (p : Nat → Nat) : Nat := rk 0 0 (p 0) + rk 0 1 (p 1) + rk 0 2 (p 2) + rk 0 3 (p 3)
def four (a b c d : Nat) : Nat → Nat := fun k => if k = 0 then a else if k = 1 then b else if k = 2 then c else d
theorem four_all {P : Nat → Nat → Prop} {a b c d : Nat} (h0 : P 0 a) (h1 : P 1 b) (h2 : P 2 c) (h3 : P 3 d) : ∀ k, k < 4 → P k (four a b c d k) := fun k hk => by
  rcases (show k = 0 ∨ k = 1 ∨ k = 2 ∨ k = 3 by omega) with rfl | rfl | rfl | rfl
  · exact h0
  · exact h1
  · exact h2
  · exact h3
theorem inj4 {p : Nat → Nat} (h : ∀ w, w < 4 → ∃ m, m < 4 ∧ p m = w) : ∀ i j, i < 4 → j < 4 → p i = p j → i = j := by
  obtain ⟨m0, a0, b0⟩ := h 0 (by omega)
  obtain ⟨m1, a1, b1⟩ := h 1 (by omega)
  obtain ⟨m2, a2, b2⟩ := h 2 (by omega)
  obtain ⟨m3, a3, b3⟩ := h 3 (by omega)
  have hp : ∀ k, k < 4 → four m0 m1 m2 m3 k < 4 ∧ p (four m0 m1 m2 m3 k) = k := four_all (P := fun k x => x < 4 ∧ p x = k) ⟨a0, b0⟩ ⟨a1, b1⟩ ⟨a2, b2⟩ ⟨a3, b3⟩
  have hs : ∀ x, x < 4 → ∃ i, i < 4 ∧ four m0 m1 m2 m3 i = x := fun x hx => sur4 (fun i hi => (hp i hi).1) (fun i j hi hj e => by rw [← (hp i hi).2, ← (hp j hj).2, e]) hx
  intro i j hi hj e
  obtain ⟨k, hk, rfl⟩ := hs i hi
  obtain ⟨l, hl, rfl⟩ := hs j hj
  rw [(hp k hk).2, (hp l hl).2] at e
  rw [e]
theorem gs_core (hr : okr rk) {p : Nat → Nat} (hs : safe rk p) {m1 m2 : Nat} (h1 : m1 < 4) (h2 : m2 < 4) (hne : m1 ≠ m2) (he : p m1 = p m2) (hlt : rk 1 (p m2) m1 < rk 1 (p m2) m2) : ∃ p', safe rk p' ∧ sumr rk p' = sumr rk p + 1 := by
  have hw := hs.1 m2 h2
  have l3 : rk 0 m2 (p m2) < 3 := by
    have l4 := hr.1 0 m2 (p m2) (by omega) h2 hw
    refine Classical.byContradiction (fun hn => hne (inj4 (p := p) (fun w hw' => ?_) m1 m2 h1 h2 he))
    by_cases q : w = p m2
    · exact ⟨m2, h2, q.symm⟩
    · have n1 : rk 0 m2 w ≠ rk 0 m2 (p m2) := fun z => q (hr.2 0 m2 w (p m2) (by omega) h2 hw' hw z)
      have n2 := hr.1 0 m2 w (by omega) h2 hw'
      obtain ⟨m', a, b, -⟩ := hs.2 m2 w h2 hw' (by omega)
      exact ⟨m', a, b⟩
  obtain ⟨w2, hw2, ew2⟩ := sur4 (d := rk 0 m2) (fun i hi => hr.1 0 m2 i (by omega) h2 hi) (fun i j hi hj e => hr.2 0 m2 i j (by omega) h2 hi hj e) (x := rk 0 m2 (p m2) + 1) (by omega)
  have pm : (fun m => if m = m2 then w2 else p m) m2 = w2 := if_pos rfl
  have po : ∀ m, m ≠ m2 → (fun m => if m = m2 then w2 else p m) m = p m := fun m hm => if_neg hm
  refine ⟨fun m => if m = m2 then w2 else p m, ⟨fun m hm => ?_, fun m w hm hw' hlt' => ?_⟩, ?_⟩
  · by_cases q : m = m2
    · subst q; rw [pm]; exact hw2
    · rw [po m q]; exact hs.1 m hm
  · by_cases q : m = m2
    · subst q
      rw [pm, ew2] at hlt'
      by_cases g : w = p m
      · subst g
        exact ⟨m1, h1, by rw [po m1 hne]; exact he, hlt⟩
      · have n1 : rk 0 m w ≠ rk 0 m (p m) := fun z => g (hr.2 0 m w (p m) (by omega) hm hw' hw z)
        obtain ⟨m', a, b, c⟩ := hs.2 m w hm hw' (by omega)
        exact ⟨m', a, by rw [po m' (fun z => g (by rw [← b, z]))]; exact b, c⟩
    · rw [po m q] at hlt'
      obtain ⟨m', a, b, c⟩ := hs.2 m w hm hw' hlt'
      by_cases g : m' = m2
      · subst g
        subst b
        exact ⟨m1, h1, by rw [po m1 hne]; exact he, by omega⟩
      · exact ⟨m', a, by rw [po m' g]; exact b, c⟩
  · unfold sumr
    rcases (show m2 = 0 ∨ m2 = 1 ∨ m2 = 2 ∨ m2 = 3 by omega) with rfl | rfl | rfl | rfl
    · rw [pm, po 1 (by decide), po 2 (by decide), po 3 (by decide)]; omega
    · rw [pm, po 0 (by decide), po 2 (by decide), po 3 (by decide)]; omega
    · rw [pm, po 0 (by decide), po 1 (by decide), po 3 (by decide)]; omega
    · rw [pm, po 0 (by decide), po 1 (by decide), po 2 (by decide)]; omega
theorem gs_loop (hr : okr rk) : ∀ (n : Nat) (p : Nat → Nat), safe rk p → sumr rk p + n = 13 → ∃ p', safe rk p' ∧ ∀ i j, i < 4 → j < 4 → p' i = p' j → i = j
  | 0, p, hs, he => by
    have a0 := hr.1 0 0 (p 0) (by omega) (by omega) (hs.1 0 (by omega))
    have a1 := hr.1 0 1 (p 1) (by omega) (by omega) (hs.1 1 (by omega))
    have a2 := hr.1 0 2 (p 2) (by omega) (by omega) (hs.1 2 (by omega))
    have a3 := hr.1 0 3 (p 3) (by omega) (by omega) (hs.1 3 (by omega))
    unfold sumr at he
    omega
  | n + 1, p, hs, he => by
    by_cases hi : ∀ i j, i < 4 → j < 4 → p i = p j → i = j
    · exact ⟨p, hs, hi⟩
    have hd : ∃ i j, i < 4 ∧ j < 4 ∧ p i = p j ∧ i ≠ j := Classical.byContradiction (fun hn => hi (fun i j hi hj he => Classical.byContradiction (fun hne => hn ⟨i, j, hi, hj, he, hne⟩)))
    obtain ⟨i, j, h1, h2, e, hne⟩ := hd
    have hn : rk 1 (p j) i ≠ rk 1 (p j) j := fun z => hne (hr.2 1 (p j) i j (by omega) (hs.1 j h2) h1 h2 z)
    have hstep : ∃ p', safe rk p' ∧ sumr rk p' = sumr rk p + 1 := by
      rcases Nat.lt_or_gt_of_ne hn with q | q
      · exact gs_core hr hs h1 h2 hne e q
      · exact gs_core hr hs h2 h1 hne.symm e.symm (by rw [e]; exact q)
    obtain ⟨p', s', e'⟩ := hstep
    exact gs_loop hr n p' s' (by omega)
theorem inv_ok {c o m : Nat} (hm : m < 4) (h : ch c m = o) : ch c (inv4 c o) = o := by
  unfold inv4
  split
  · assumption
  · split
    · assumption
    · split
      · assumption
      · rcases (show m = 0 ∨ m = 1 ∨ m = 2 ∨ m = 3 by omega) with rfl | rfl | rfl | rfl
        · contradiction
        · contradiction
        · contradiction
        · exact h
theorem gs (hr : okr rk) : ∃ c, c < 256 ∧ stb rk c = true := by
  have st : ∀ m, m < 4 → ∃ w, w < 4 ∧ rk 0 m w = 0 := fun m hm => sur4 (d := rk 0 m) (fun i hi => hr.1 0 m i (by omega) hm hi) (fun i j hi hj e => hr.2 0 m i j (by omega) hm hi hj e) (by omega)
  obtain ⟨w0, a0, b0⟩ := st 0 (by omega)
  obtain ⟨w1, a1, b1⟩ := st 1 (by omega)
  obtain ⟨w2, a2, b2⟩ := st 2 (by omega)
  obtain ⟨w3, a3, b3⟩ := st 3 (by omega)
  have h0 : ∀ k, k < 4 → four w0 w1 w2 w3 k < 4 ∧ rk 0 k (four w0 w1 w2 w3 k) = 0 := four_all (P := fun k x => x < 4 ∧ rk 0 k x = 0) ⟨a0, b0⟩ ⟨a1, b1⟩ ⟨a2, b2⟩ ⟨a3, b3⟩
  obtain ⟨p, hs, hi⟩ := gs_loop hr 13 (four w0 w1 w2 w3) ⟨fun m hm => (h0 m hm).1, fun m w hm hw hlt => by rw [(h0 m hm).2] at hlt; omega⟩ (by unfold sumr; rw [(h0 0 (by omega)).2, (h0 1 (by omega)).2, (h0 2 (by omega)).2, (h0 3 (by omega)).2])
  have p0 := hs.1 0 (by omega)
  have p1 := hs.1 1 (by omega)
  have p2 := hs.1 2 (by omega)
  have p3 := hs.1 3 (by omega)
  have hc : p 0 + 4 * p 1 + 16 * p 2 + 64 * p 3 < 256 := by omega
  have hch : ∀ a, a < 4 → ch (p 0 + 4 * p 1 + 16 * p 2 + 64 * p 3) a = p a := fun a ha => by
    unfold ch
    rcases (show a = 0 ∨ a = 1 ∨ a = 2 ∨ a = 3 by omega) with rfl | rfl | rfl | rfl
    · show (p 0 + 4 * p 1 + 16 * p 2 + 64 * p 3) / 1 % 4 = p 0; omega
    · show (p 0 + 4 * p 1 + 16 * p 2 + 64 * p 3) / 4 % 4 = p 1; omega
    · show (p 0 + 4 * p 1 + 16 * p 2 + 64 * p 3) / 16 % 4 = p 2; omega
    · show (p 0 + 4 * p 1 + 16 * p 2 + 64 * p 3) / 64 % 4 = p 3; omega
  generalize p 0 + 4 * p 1 + 16 * p 2 + 64 * p 3 = c at hc hch
  have hpo : ∀ o, o < 4 → ch c (inv4 c o) = o := fun o ho => by
    obtain ⟨m, hm, e⟩ := sur4 (fun i h => hs.1 i h) hi ho
    exact inv_ok hm ((hch m hm).trans e)
  have hp : perm c = true := by
    unfold perm
    rw [hpo 0 (by omega), hpo 1 (by omega), hpo 2 (by omega), hpo 3 (by omega)]
    rfl
  refine ⟨c, hc, stb_iff.mpr ⟨hp, fun a ha b hb q => ?_⟩⟩
  obtain ⟨q1, q2⟩ := bl_iff.mp q
  rw [hch a ha] at q1
  obtain ⟨m', x1, x2, x3⟩ := hs.2 a b ha hb q1
  rw [(p_tab c hc hp m' x1 b hb).mpr ((hch m' x1).trans x2)] at q2
  omega
end GS
