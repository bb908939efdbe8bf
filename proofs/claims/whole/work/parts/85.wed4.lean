/-! the model's weddings -/
def inn (f : Nat → Bool) (v : Int32) : Nat → Int32
  | 0 => v
  | k + 1 => if inn f v k = 0 then 0 else if f k = true then 0 else 1
theorem inn_0 (f : Nat → Bool) : ∀ k, inn f 0 k = 0
  | 0 => rfl
  | k + 1 => by
    show (if inn f 0 k = 0 then _ else _) = _
    rw [if_pos (inn_0 f k)]
theorem inn_1 {f : Nat → Bool} : ∀ k, (∀ j, j < k → ¬ f j = true) → inn f 1 k = 1
  | 0, _ => rfl
  | k + 1, h => by
    show (if inn f 1 k = 0 then _ else _) = _
    rw [inn_1 k (fun j hj => h j (by omega)), if_neg (by decide), if_neg (h k (by omega))]
theorem inn_b {f : Nat → Bool} {v : Int32} {j : Nat} (hf : f j = true) : ∀ k, j < k → inn f v k = 0
  | 0, h => by omega
  | k + 1, h => by
    show (if inn f v k = 0 then _ else _) = _
    rcases Nat.eq_or_lt_of_le (show j ≤ k by omega) with z | z
    · subst z
      rw [if_pos hf]
      split <;> rfl
    · rw [if_pos (inn_b hf k z)]
section WD4
variable {μ m : pm_M} {rk : Nat → Nat → Nat → Nat} {c s : Nat}
def outf (rk : Nat → Nat → Nat → Nat) (c : Nat) : Nat → Int32
  | 0 => 1
  | a + 1 => inn (bl rk c a) (outf rk c a) 4
theorem out_1 : ∀ n, (∀ a, a < n → ∀ b, b < 4 → ¬ bl rk c a b = true) → outf rk c n = 1
  | 0, _ => rfl
  | n + 1, h => by
    show inn (bl rk c n) (outf rk c n) 4 = 1
    rw [out_1 n (fun a ha => h a (by omega)), inn_1 4 (h n (by omega))]
theorem out_0 {a b : Nat} (hb : b < 4) (hq : bl rk c a b = true) : ∀ n, a < n → outf rk c n = 0
  | 0, h => by omega
  | n + 1, h => by
    show inn (bl rk c n) (outf rk c n) 4 = 0
    rcases Nat.eq_or_lt_of_le (show a ≤ n by omega) with z | z
    · subst z
      exact inn_b hq 4 hb
    · rw [out_0 hb hq n z, inn_0]
theorem m11 (h : okRk μ rk) (h54 : m 54 = μ 54) (h60 : ∀ a, a < 4 → m 60 a = nI (ch c a)) (h61 : ∀ o, o < 4 → m 61 o = nI (inv4 c o)) {a : Nat} (ha : a < 4) {v4 : Int32 × Int32} (hv : v4.2 = nI a) {v : Int32} {E : Int32 → Option Int32} : pm_it (f_X10_isSteady_b11 m v4) 5000 (v, 0) E = E (inn (bl rk c a) v 4) := by
  refine it_for (fun k => (inn (bl rk c a) v k, nI k)) 4 (fun k hk T => ?_) (fun T => ?_) 4 0 5000 (by omega) (by omega)
  · show (if (4 : Int32) ≤ nI k then _ else _) = _
    rw [if_neg (show ¬ (4 : Int32) ≤ nI k from nI_ge (b := 4) hk (by omega))]
    dsimp only
    rw [nI_1, hv, jn_eq, jn_eq]
    have ei : inn (bl rk c a) v (k + 1) = if inn (bl rk c a) v k = 0 then 0 else if bl rk c a k = true then 0 else 1 := rfl
    rw [ei]
    by_cases q : inn (bl rk c a) v k = 0
    · rw [if_pos q, if_pos q]
    have r1 := h.1 0 a k (by omega) ha hk
    have r2 := h.1 0 a (ch c a) (by omega) ha (ch_lt c a)
    have r3 := h.1 1 k a (by omega) hk ha
    have r4 := h.1 1 k (inv4 c k) (by omega) hk (inv_lt c k)
    rw [if_neg q, if_neg q, show f_X10_placeOf 0 (nI a) (nI k) m = _ from r1.2.2 m h54, b_some, ck_in ha (by omega), nI_clamp (by omega), h60 a ha, show f_X10_placeOf 0 (nI a) (nI (ch c a)) m = _ from r2.2.2 m h54, b_some, jn_eq]
    by_cases g1 : rk 0 a k < rk 0 a (ch c a)
    · rw [if_neg (nI_ge g1 (by omega)), show f_X10_placeOf 1 (nI k) (nI a) m = _ from r3.2.2 m h54, b_some, ck_in hk (by omega), nI_clamp (by omega), h61 k hk, show f_X10_placeOf 1 (nI k) (nI (inv4 c k)) m = _ from r4.2.2 m h54, b_some]
      by_cases g2 : rk 1 k a < rk 1 k (inv4 c k)
      · rw [if_pos (nI_lt g2 (by omega)), if_pos (bl_iff.mpr ⟨g1, g2⟩)]
      · rw [if_neg (nI_nlt (by omega) (by omega)), if_neg (fun z => g2 (bl_iff.mp z).2)]
    · rw [if_pos (nI_le (by omega) (by omega)), if_neg (fun z => g1 (bl_iff.mp z).1)]
  · rfl
theorem m_steady (h : okRk μ rk) (hp : perm c = true) (h54 : m 54 = μ 54) (h60 : ∀ a, a < 4 → m 60 a = nI (ch c a)) (h61 : ∀ o, o < 4 → m 61 o = nI (inv4 c o)) : f_X10_isSteady m = some (if stb rk c = true then 1 else 0) := by
  have hout : outf rk c 4 = if stb rk c = true then 1 else 0 := by
    by_cases q : stb rk c = true
    · rw [if_pos q]
      exact out_1 4 (fun a ha b hb => (stb_iff.mp q).2 a ha b hb)
    · rw [if_neg q]
      have hd : ∃ a b, a < 4 ∧ b < 4 ∧ bl rk c a b = true := Classical.byContradiction (fun hn => q (stb_iff.mpr ⟨hp, fun a ha b hb z => hn ⟨a, b, ha, hb, z⟩⟩))
      obtain ⟨a, b, ha, hb, z⟩ := hd
      exact out_0 hb z 4 ha
  unfold f_X10_isSteady
  refine (it_for (e := outf rk c 4) (fun k => (outf rk c k, nI k)) 4 (fun k hk T => ?_) (fun T => ?_) 4 0 5000 (by omega) (by omega)).trans ?_
  · show (if (4 : Int32) ≤ nI k then _ else _) = _
    rw [if_neg (show ¬ (4 : Int32) ≤ nI k from nI_ge (b := 4) hk (by omega))]
    dsimp only
    rw [m11 h h54 h60 h61 hk rfl, nI_1]
    rfl
  · unfold f_X10_isSteady_b4
    dsimp only
    rw [if_pos (by decide)]
  · rw [hout]
    split
    · rw [if_pos (Or.inr rfl)]
    · rw [if_pos (Or.inl rfl)]
theorem lay25 {m0 : pm_M} (h : okRk μ rk) (hc : c < 256) (hs : s < 2) (h54 : m0 54 = μ 54) {v8 : Int32 × Int32 × Int32 × pm_M} (hv : v8.2.2.1 = nI c) {E : Int32 × Int32 × pm_M → Option (Int32 × pm_M)} (Q : Option (Int32 × pm_M) → Prop)
    (hE : ∀ m : pm_M, (∀ j, j ≠ 60 → j ≠ 61 → m j = m0 j) → (∀ i, i < 4 → m 60 i = nI (ch c i)) → (perm c = true → ∀ o, o < 4 → m 61 o = nI (inv4 c o)) → Q (E (us c 4, nI (smk rk s c 4), m))) : Q (pm_it (f_X10_laySteady_b25 (nI s) v8) 5000 (0, 0, 0, m0) E) := by
  refine it_wp (fun k z => ∃ (a : Nat) (m : pm_M), z = (us c a, nI (smk rk s c a), nI a, m) ∧ a + k = 5 ∧ a ≤ 4 ∧ (∀ j, j ≠ 60 → j ≠ 61 → m j = m0 j) ∧ (∀ i, i < a → m 60 i = nI (ch c i)) ∧ (perm c = true → ∀ i, i < a → m 61 (ch c i) = nI i)) Q (fun z g => by obtain ⟨a, m, -, e1, e2, -⟩ := g; omega) (fun k z g T hT => ?_) 5000 5 _ (by omega) ⟨0, m0, rfl, by omega, by omega, fun _ _ _ => rfl, fun i hi => by omega, fun _ i hi => by omega⟩
  obtain ⟨a, m, rfl, e1, e2, e3, e4, e5⟩ := g
  unfold f_X10_laySteady_b25
  dsimp only
  by_cases q : a = 4
  · subst q
    rw [if_pos (by decide)]
    refine hE m e3 e4 (fun hp o ho => ?_)
    have hi := (p_tab c hc hp (inv4 c o) (inv_lt c o) o ho).mp rfl
    rw [← e5 hp (inv4 c o) (inv_lt c o), hi]
  have ha : a < 4 := by omega
  have hl := ch_lt c a
  rw [if_neg (show ¬ (4 : Int32) ≤ nI a from nI_ge (b := 4) ha (by omega)), ck_in ha (by omega), hv, ((c_tab c hc).2.2 a ha).1, nI_clamp (by omega), let_eq, ck_in ha (by omega), up_r, upd_s, ck_in hl (by omega), nI_clamp (by omega), let_eq, ck_in ha (by omega), up_o (show 60 ≠ 61 by decide), up_r, upd_s, let_eq, jn_eq, ck_in ha (by omega), ck_in ha (by omega), nI_1]
  have h54' : pm_up (pm_up m 60 a (nI (ch c a))) 61 (ch c a) (nI a) 54 = μ 54 := by rw [up_o (by decide), up_o (by decide), e3 54 (by decide) (by decide)]; exact h54
  have next : ∀ r, r = (if s = 0 then rk 0 a (ch c a) else rk 1 (ch c a) a) → Q (T (us c a ||| ((1 : Int32) <<< (nI (ch c a) &&& 31)), nI (smk rk s c a) + nI r, nI (a + 1), pm_up (pm_up m 60 a (nI (ch c a))) 61 (ch c a) (nI a))) := fun r hr => by
    rw [nI_add]
    refine hT _ ⟨a + 1, _, by rw [hr]; rfl, by omega, by omega, fun j h1 h2 => by rw [up_o h2, up_o h1]; exact e3 j h1 h2, fun i hi => ?_, fun hp i hi => ?_⟩
    · rw [up_o (by decide), up_r]
      by_cases z : i = a
      · rw [z, upd_s]
      · rw [upd_n z]; exact e4 i (by omega)
    · rw [up_r]
      by_cases z : i = a
      · rw [z, upd_s]
      · rw [upd_n, up_o (by decide)]
        · exact e5 hp i (by omega)
        · intro w
          have x1 := (p_tab c hc hp i (by omega) (ch c a) hl).mpr w
          have x2 := (p_tab c hc hp a ha (ch c a) hl).mpr rfl
          omega
  rcases (show s = 0 ∨ s = 1 by omega) with rfl | rfl
  · rw [if_pos (show nI 0 = 0 from rfl), show f_X10_placeOf 0 (nI a) (nI (ch c a)) _ = _ from (h.1 0 a (ch c a) (by omega) ha hl).2.2 _ h54', b_some]
    dsimp only
    rw [let_eq]
    exact next _ rfl
  · rw [if_neg (show ¬ nI 1 = 0 by decide), show f_X10_placeOf 1 (nI (ch c a)) (nI a) _ = _ from (h.1 1 (ch c a) a (by omega) hl ha).2.2 _ h54', b_some]
    dsimp only
    rw [let_eq]
    exact next _ rfl
end WD4
