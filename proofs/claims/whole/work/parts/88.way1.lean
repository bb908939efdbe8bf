/-! ROUND: least miles, as numbers -/
def rN (R : Nat → Int32) (i : Nat) : Nat := (R i).toNatClampNeg
def ap0 (F : Nat) (r : Nat → Nat) (i : Nat) : Nat := if i / 7 = i % 7 then 0 else if r i = 0 then F else r i
def aps (g : Nat → Nat) (m i : Nat) : Nat := min (g i) (g (7 * (i / 7) + m) + g (7 * m + i % 7))
def ap (F : Nat) (r : Nat → Nat) : Nat → Nat → Nat
  | 0 => ap0 F r
  | m + 1 => aps (ap F r m) m
section AP
variable {F : Nat} {r : Nat → Nat}
theorem ap_d (F : Nat) (r : Nat → Nat) : ∀ m a, a < 7 → ap F r m (7 * a + a) = 0
  | 0, a, ha => by
    show (if (7 * a + a) / 7 = (7 * a + a) % 7 then _ else _) = _
    rw [if_pos (by omega)]
  | m + 1, a, ha => by
    show min (ap F r m (7 * a + a)) _ = 0
    rw [ap_d F r m a ha]
    omega
theorem ap_le (hr : ∀ i, r i ≤ 9) (hF : 9 ≤ F) : ∀ m i, ap F r m i ≤ F
  | 0, i => by
    show (if i / 7 = i % 7 then _ else _) ≤ _
    have := hr i
    split
    · omega
    · split <;> omega
  | m + 1, i => Nat.le_trans (Nat.min_le_left _ _) (ap_le hr hF m i)
theorem aps_col {g : Nat → Nat} {m a : Nat} (hg : g (7 * m + m) = 0) (hm : m < 7) (ha : a < 7) : aps g m (7 * a + m) = g (7 * a + m) := by
  unfold aps
  rw [show (7 * a + m) / 7 = a by omega, show (7 * a + m) % 7 = m by omega, hg]
  omega
theorem aps_row {g : Nat → Nat} {m b : Nat} (hg : g (7 * m + m) = 0) (hm : m < 7) (hb : b < 7) : aps g m (7 * m + b) = g (7 * m + b) := by
  unfold aps
  rw [show (7 * m + b) / 7 = m by omega, show (7 * m + b) % 7 = b by omega, hg]
  omega
theorem aps_at {g : Nat → Nat} {m a b : Nat} (hb : b < 7) : aps g m (7 * a + b) = min (g (7 * a + b)) (g (7 * a + m) + g (7 * m + b)) := by
  unfold aps
  rw [show (7 * a + b) / 7 = a by omega, show (7 * a + b) % 7 = b by omega]
theorem ap_cap (hr : ∀ i, r i ≤ 9) : ∀ m i, ap 1000 r m i = min (ap 1000000 r m i) 1000
  | 0, i => by
    have := hr i
    show (if i / 7 = i % 7 then 0 else if r i = 0 then 1000 else r i) = min (if i / 7 = i % 7 then 0 else if r i = 0 then 1000000 else r i) 1000
    split
    · omega
    · split <;> omega
  | m + 1, i => by
    show min (ap 1000 r m i) (ap 1000 r m (7 * (i / 7) + m) + ap 1000 r m (7 * m + i % 7)) = min (min (ap 1000000 r m i) (ap 1000000 r m (7 * (i / 7) + m) + ap 1000000 r m (7 * m + i % 7))) 1000
    rw [ap_cap hr m i, ap_cap hr m (7 * (i / 7) + m), ap_cap hr m (7 * m + i % 7)]
    omega
theorem ap_edge : ∀ m i, ap F r m i ≤ ap0 F r i
  | 0, i => Nat.le_refl _
  | m + 1, i => Nat.le_trans (Nat.min_le_left _ _) (ap_edge m i)
theorem ap_s {m a b : Nat} (hb : b < 7) : ap F r (m + 1) (7 * a + b) = min (ap F r m (7 * a + b)) (ap F r m (7 * a + m) + ap F r m (7 * m + b)) := aps_at hb
theorem ap_tri : ∀ k, k ≤ 7 → ∀ a b v, a < 7 → b < 7 → v < k → ap F r k (7 * a + b) ≤ ap F r k (7 * a + v) + ap F r k (7 * v + b)
  | 0, _, _, _, _, _, _, h => by omega
  | m + 1, hk, a, b, v, ha, hb, hv => by
    have d := ap_d F r m m (by omega)
    rw [ap_s hb, ap_s (show v < 7 by omega), ap_s hb]
    rcases Nat.eq_or_lt_of_le (show v ≤ m by omega) with z | z
    · subst z
      rw [d]
      omega
    · have t1 := ap_tri m (by omega) a b v ha hb z
      have t2 := ap_tri m (by omega) m b v (by omega) hb z
      have t3 := ap_tri m (by omega) a m v ha (by omega) z
      omega
theorem ap_pred (hr : ∀ i, r i ≤ 9) (hF : 9 ≤ F) : ∀ k, k ≤ 7 → ∀ a b, a < 7 → b < 7 → a ≠ b → ap F r k (7 * a + b) < F → ∃ v, v < 7 ∧ v ≠ b ∧ 0 < r (7 * v + b) ∧ ap F r k (7 * a + v) < ap F r k (7 * a + b)
  | 0, _, a, b, ha, hb, hne, h => by
    refine ⟨a, ha, hne, ?_, ?_⟩
    · have h : (if (7 * a + b) / 7 = (7 * a + b) % 7 then 0 else if r (7 * a + b) = 0 then F else r (7 * a + b)) < F := h
      rw [if_neg (by omega)] at h
      by_cases q : r (7 * a + b) = 0
      · rw [if_pos q] at h; omega
      · omega
    · rw [ap_d F r 0 a ha]
      have h : (if (7 * a + b) / 7 = (7 * a + b) % 7 then 0 else if r (7 * a + b) = 0 then F else r (7 * a + b)) < F := h
      show 0 < (if (7 * a + b) / 7 = (7 * a + b) % 7 then 0 else if r (7 * a + b) = 0 then F else r (7 * a + b))
      rw [if_neg (by omega)] at h ⊢
      split <;> omega
  | m + 1, hk, a, b, ha, hb, hne, h => by
    have d := ap_d F r m m (by omega)
    rw [ap_s hb] at h
    by_cases q : ap F r m (7 * a + b) ≤ ap F r m (7 * a + m) + ap F r m (7 * m + b)
    · obtain ⟨v, h1, h2, h3, h4⟩ := ap_pred hr hF m (by omega) a b ha hb hne (by omega)
      refine ⟨v, h1, h2, h3, ?_⟩
      rw [ap_s hb, ap_s h1]
      omega
    · have hmb : m ≠ b := fun z => by
        subst z
        rw [d] at q
        omega
      obtain ⟨v, h1, h2, h3, h4⟩ := ap_pred hr hF m (by omega) m b (by omega) hb hmb (by omega)
      refine ⟨v, h1, h2, h3, ?_⟩
      rw [ap_s hb, ap_s h1]
      omega
theorem sumf_lt {f g : Nat → Nat} {v : Nat} : ∀ n, (∀ k, k < n → f k ≤ g k) → v < n → f v + 1 ≤ g v → sumf f n + 1 ≤ sumf g n
  | 0, _, h, _ => by omega
  | n + 1, h, hv, hs => by
    show sumf f n + f n + 1 ≤ sumf g n + g n
    have hn := h n (by omega)
    rcases Nat.eq_or_lt_of_le (show v ≤ n by omega) with z | z
    · subst z
      have : sumf f v ≤ sumf g v := by
        clear hs hv hn
        have key : ∀ m, m ≤ v → sumf f m ≤ sumf g m := by
          intro m
          induction m with
          | zero => intro _; exact Nat.le_refl _
          | succ m ih =>
            intro hm
            have a := ih (by omega)
            have b := h m (by omega)
            show sumf f m + f m ≤ sumf g m + g m
            omega
        exact key v (Nat.le_refl _)
      omega
    · have := sumf_lt n (fun k hk => h k (by omega)) z hs
      omega
def cntl (f : Nat → Nat) (x : Nat) : Nat := sumf (fun y => if f y < x then 1 else 0) 7
theorem cntl_s {f : Nat → Nat} {x v : Nat} (hv : v < 7) (h : f v < x) : cntl f (f v) + 1 ≤ cntl f x := by
  unfold cntl
  refine sumf_lt (v := v) 7 (fun k hk => ?_) hv ?_
  · split
    · rw [if_pos (by omega)]
      omega
    · omega
  · rw [if_neg (by omega), if_pos h]
    omega
theorem cntl_6 {f : Nat → Nat} {b : Nat} (hb : b < 7) : cntl f (f b) ≤ 6 := by
  have := sumf_lt (f := fun y => if f y < f b then 1 else 0) (g := fun _ => 1) (v := b) 7 (fun k hk => by split <;> omega) hb (by rw [if_neg (by omega)]; omega)
  have e : sumf (fun _ => 1) 7 = 7 := rfl
  unfold cntl
  omega
theorem ap_chain {K : Nat} (hK : K = 7) (hr : ∀ i, r i ≤ 9) (hF : 9 ≤ F) {a : Nat} (ha : a < 7) : ∀ (n b : Nat), b < 7 → ap F r K (7 * a + b) < n → ap F r K (7 * a + b) < F → ap F r K (7 * a + b) ≤ 9 * cntl (fun y => ap F r K (7 * a + y)) (ap F r K (7 * a + b))
  | 0, b, hb, h, _ => by omega
  | n + 1, b, hb, hn, h => by
    by_cases q : a = b
    · subst q
      rw [ap_d F r K a ha]
      omega
    obtain ⟨v, h1, h2, h3, h4⟩ := ap_pred hr hF K (by omega) a b ha hb q h
    have ih := ap_chain hK hr hF ha n v h1 (by omega) (by omega)
    have t := ap_tri (F := F) (r := r) K (by omega) a b v ha hb (by omega)
    have e := ap_edge (F := F) (r := r) K (7 * v + b)
    have e9 : ap0 F r (7 * v + b) ≤ 9 := by
      have := hr (7 * v + b)
      unfold ap0
      rw [if_neg (by omega), if_neg (by omega)]
      omega
    have c := cntl_s (f := fun y => ap F r K (7 * a + y)) h1 h4
    omega
theorem ap_54 {K : Nat} (hK : K = 7) (hr : ∀ i, r i ≤ 9) (hF : 9 ≤ F) {i : Nat} (hi : i < 49) (h : ap F r K i < F) : ap F r K i ≤ 54 := by
  have e : 7 * (i / 7) + i % 7 = i := by omega
  have c := ap_chain hK hr hF (a := i / 7) (by omega) (ap F r K i + 1) (i % 7) (by omega) (by rw [e]; omega) (by rw [e]; exact h)
  have c6 := cntl_6 (f := fun y => ap F r K (7 * (i / 7) + y)) (b := i % 7) (by omega)
  rw [e] at c c6
  omega
end AP
