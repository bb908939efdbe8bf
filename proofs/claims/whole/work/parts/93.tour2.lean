/-! the class's table of tours, as it grows -/
def curN (B H K S l : Nat) : Nat := if S - 2 ^ l < B then 7 else if S - 2 ^ l = B then (if l < K then H + 1 else H) else 0
def cur (h G : Nat) (dl : Nat → Nat) (t : Nat → Nat → Nat) (B H K S l : Nat) : Nat := if S = 2 ^ h ∧ l = h then 0 else if bt S l = true ∧ bt G l = true then mnf 1000 (fun x => t (S - 2 ^ l) x + dl (7 * x + l)) (curN B H K S l) else 1000
section TC
variable {h G N : Nat} {dl : Nat → Nat}
theorem cur_cg {t : Nat → Nat → Nat} {B H K B' H' K' S l : Nat} (e : bt S l = true → bt G l = true → mnf 1000 (fun x => t (S - 2 ^ l) x + dl (7 * x + l)) (curN B H K S l) = mnf 1000 (fun x => t (S - 2 ^ l) x + dl (7 * x + l)) (curN B' H' K' S l)) : cur h G dl t B H K S l = cur h G dl t B' H' K' S l := by
  unfold cur
  by_cases q : S = 2 ^ h ∧ l = h
  · rw [if_pos q, if_pos q]
  · rw [if_neg q, if_neg q]
    by_cases z : bt S l = true ∧ bt G l = true
    · rw [if_pos z, if_pos z]; exact e z.1 z.2
    · rw [if_neg z, if_neg z]
theorem cur_n {t : Nat → Nat → Nat} {B H k S l : Nat} (hne : ¬ (l = k ∧ bt S l = true ∧ bt G l = true ∧ S - 2 ^ l = B)) : cur h G dl t B H k S l = cur h G dl t B H (k + 1) S l := cur_cg (fun a b => by
  congr 1
  unfold curN
  split
  · rfl
  · split
    · rename_i z
      have : l ≠ k := fun y => hne ⟨y, a, b, z⟩
      by_cases w : l < k
      · rw [if_pos w, if_pos (by omega)]
      · rw [if_neg w, if_neg (by omega)]
    · rfl)
theorem cur_7 {t : Nat → Nat → Nat} {B H S l : Nat} (hl : l < 7) : cur h G dl t B H 7 S l = cur h G dl t B (H + 1) 0 S l := cur_cg (fun a b => by
  congr 1
  unfold curN
  split
  · rfl
  · split
    · rw [if_neg (show ¬ l < 0 by omega)]
    · rfl)
theorem cur_next {t : Nat → Nat → Nat} {B S l : Nat} : cur h G dl t B 7 0 S l = cur h G dl t (B + 1) 0 0 S l := cur_cg (fun a b => by
  congr 1
  unfold curN
  by_cases q : S - 2 ^ l < B
  · rw [if_pos q, if_pos (by omega)]
  · rw [if_neg q]
    by_cases z : S - 2 ^ l = B
    · rw [if_pos z, if_neg (by omega), if_pos (by omega)]
    · rw [if_neg z, if_neg (by omega)]
      split
      · rw [if_neg (by omega)]
      · rfl)
theorem cur_skip {t : Nat → Nat → Nat} {B H S l : Nat} (hf : 1000 ≤ t B H) : cur h G dl t B H 0 S l = cur h G dl t B (H + 1) 0 S l := cur_cg (fun a b => by
  unfold curN
  split
  · rfl
  · split
    · rename_i z
      rw [if_neg (by omega), if_neg (by omega)]
      have := mnf_a (a := 1000) (f := fun x => t (S - 2 ^ l) x + dl (7 * x + l)) H
      show _ = min (mnf 1000 (fun x => t (S - 2 ^ l) x + dl (7 * x + l)) H) (t (S - 2 ^ l) H + dl (7 * H + l))
      rw [z] at this ⊢
      omega
    · rfl)
theorem if_id' {c : Prop} [Decidable c] {α : Type} (x : α) : (if c then x else x) = x := by split <;> rfl
theorem cur_0 {t : Nat → Nat → Nat} {S l : Nat} : cur h G dl t 0 0 0 S l = if S = 2 ^ h ∧ l = h then 0 else 1000 := by
  unfold cur curN
  by_cases q : S = 2 ^ h ∧ l = h
  · rw [if_pos q, if_pos q]
  · rw [if_neg q, if_neg q, if_neg (show ¬ S - 2 ^ l < 0 by omega), if_neg (show ¬ l < 0 by omega), if_id']
    split <;> rfl
theorem cur_fin {B H K S l : Nat} (hS : S < N) (hB : S ≤ B) : cur h G dl (tht h G dl N) B H K S l = tht h G dl N S l := by
  rw [tht_eq hS]
  unfold cur stT
  by_cases q : S = 2 ^ h ∧ l = h
  · rw [if_pos q, if_pos q]
  · rw [if_neg q, if_neg q]
    by_cases z : bt S l = true ∧ bt G l = true
    · have := bt_pos z.1
      unfold curN
      rw [if_pos z, if_pos z, if_pos (by omega)]
    · rw [if_neg z, if_neg z]
theorem tht_le {S l : Nat} (hS : S < N) : tht h G dl N S l ≤ 1000 := by
  rw [tht_eq hS]
  unfold stT
  split
  · omega
  · split
    · exact mnf_a 7
    · omega
theorem cur_le {t : Nat → Nat → Nat} {B H K S l : Nat} : cur h G dl t B H K S l ≤ 1000 := by
  unfold cur
  split
  · omega
  · split
    · exact mnf_a _
    · omega
/-- the memory holds the table -/
def tm (m0 m : pm_M) (h G : Nat) (dl : Nat → Nat) (N B H K : Nat) : Prop := (∀ j, j ≠ 47 → m j = m0 j) ∧ ∀ S l, S < 128 → l < 7 → m 47 (7 * S + l) = nI (cur h G dl (tht h G dl N) B H K S l)
theorem tm_cg {m0 m : pm_M} {B H K B' H' K' : Nat} (ht : tm m0 m h G dl N B H K) (e : ∀ S l, S < 128 → l < 7 → cur h G dl (tht h G dl N) B H K S l = cur h G dl (tht h G dl N) B' H' K' S l) : tm m0 m h G dl N B' H' K' := ⟨ht.1, fun S l hS hl => by rw [← e S l hS hl]; exact ht.2 S l hS hl⟩
theorem len_eq2 (hN : N = 128) (hG : G < 128) (hGh : bt G h = false) (hdl : ∀ i, dl i ≤ 1000) {m0 m : pm_M} (h46 : ∀ i, i < 49 → m0 46 i = nI (dl i)) {B H : Nat} (hB : B < 128) (hH : H < 7) (ht : tm m0 m h G dl N B H 0) : ∃ ν, f_X5_lengthen (nI B) (nI H) (nI G &&& (nI B ^^^ (-1))) m = some ν ∧ tm m0 ν h G dl N B H 7 := by
  unfold f_X5_lengthen
  refine it_wp (fun k s => ∃ (f : Nat) (m : pm_M), s = (nI f, m) ∧ f + k = 8 ∧ f ≤ 7 ∧ tm m0 m h G dl N B H f) (fun o => ∃ ν, o = some ν ∧ tm m0 ν h G dl N B H 7) (fun s g => by obtain ⟨f, m, -, e1, e2, -⟩ := g; omega) (fun k s g T hT => ?_) 5000 8 _ (by omega) ⟨0, m, rfl, by omega, by omega, ht⟩
  obtain ⟨f, m, rfl, e1, e2, e3⟩ := g
  unfold f_X5_lengthen_b3
  dsimp only
  by_cases q : f = 7
  · subst q
    rw [if_pos (by decide)]
    exact ⟨m, rfl, e3⟩
  have hf : f < 7 := by omega
  rw [if_neg (show ¬ (7 : Int32) ≤ nI f from nI_ge (b := 7) hf (by omega)), jn_eq, nI_1]
  have hbit := left_bit (B := B) hG hf
  by_cases g : bt G f = true ∧ bt B f = false
  · obtain ⟨g1, g2⟩ := g
    have b3 := b_3 B hB f hf g2
    have hS0 : B + 2 ^ f - 2 ^ f = B := Nat.add_sub_cancel _ _
    have hfh : f ≠ h := fun z => by rw [z, hGh] at g1; cases g1
    have vBH : m 47 (7 * B + H) = nI (tht h G dl N B H) := by rw [e3.2 B H hB hH, cur_fin (by omega) (Nat.le_refl _)]
    have v46 : m 46 (7 * H + f) = nI (dl (7 * H + f)) := by rw [e3.1 46 (by decide)]; exact h46 _ (by omega)
    have lT := tht_le (h := h) (G := G) (dl := dl) (N := N) (S := B) (l := H) (by omega)
    have lD := hdl (7 * H + f)
    have vS := e3.2 (B + 2 ^ f) f b3.1 hf
    have hc1 : cur h G dl (tht h G dl N) B H f (B + 2 ^ f) f = mnf 1000 (fun x => tht h G dl N B x + dl (7 * x + f)) H := by
      unfold cur curN
      rw [if_neg (fun z => hfh z.2), if_pos ⟨b3.2.1, g1⟩, hS0, if_neg (by omega), if_pos rfl, if_neg (by omega)]
    have hc2 : cur h G dl (tht h G dl N) B H (f + 1) (B + 2 ^ f) f = min (cur h G dl (tht h G dl N) B H f (B + 2 ^ f) f) (tht h G dl N B H + dl (7 * H + f)) := by
      rw [hc1]
      unfold cur curN
      rw [if_neg (fun z => hfh z.2), if_pos ⟨b3.2.1, g1⟩, hS0, if_neg (by omega), if_pos rfl, if_pos (by omega)]
      rfl
    have lC := cur_le (h := h) (G := G) (dl := dl) (t := tht h G dl N) (B := B) (H := H) (K := f) (S := B + 2 ^ f) (l := f)
    have far : ∀ S l, S < 128 → l < 7 → ¬ (S = B + 2 ^ f ∧ l = f) → cur h G dl (tht h G dl N) B H f S l = cur h G dl (tht h G dl N) B H (f + 1) S l := fun S l hS hl hne => cur_n (fun ⟨z1, z2, z3, z4⟩ => hne ⟨by
      have := (b_2 S hS l hl z2).1
      rw [z1] at z4 this
      omega, z1⟩)
    rw [if_pos (hbit.mpr ⟨g1, g2⟩), ix7, ix7, ck_in (by omega) (by omega), ck_in (by omega) (by omega), nI_clamp (by omega), nI_clamp (by omega), vBH, v46, nI_add, let_eq, b3.2.2.1, ix7, let_eq, ck_in (by omega) (by omega), nI_clamp (by omega)]
    by_cases w : cur h G dl (tht h G dl N) B H f (B + 2 ^ f) f ≤ tht h G dl N B H + dl (7 * H + f)
    · rw [if_pos (by rw [vS]; exact nI_le w (by omega))]
      refine hT _ ⟨f + 1, m, rfl, by omega, by omega, tm_cg e3 (fun S l hS hl => ?_)⟩
      by_cases y : S = B + 2 ^ f ∧ l = f
      · rw [y.1, y.2, hc2]; omega
      · exact far S l hS hl y
    · rw [if_neg (by rw [vS]; exact nI_ge (by omega) (by omega)), ck_in (by omega) (by omega), let_eq]
      refine hT _ ⟨f + 1, _, rfl, by omega, by omega, fun j hj => by rw [up_o hj]; exact e3.1 j hj, fun S l hS hl => ?_⟩
      rw [up_r]
      by_cases y : S = B + 2 ^ f ∧ l = f
      · rw [y.1, y.2, upd_s, hc2]
        congr 1
        omega
      · rw [upd_n (by omega), ← far S l hS hl y]
        exact e3.2 S l hS hl
  · rw [if_neg (fun z => g (hbit.mp z))]
    refine hT _ ⟨f + 1, m, rfl, by omega, by omega, tm_cg e3 (fun S l hS hl => cur_n (fun ⟨z1, z2, z3, z4⟩ => g ⟨by rw [← z1]; exact z3, ?_⟩))⟩
    have := (b_2 S hS l hl z2).2.1
    rw [z4, z1] at this
    exact this
end TC
