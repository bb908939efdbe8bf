/-! PURE ROWS from here on: the two decompiled programs beside each other. First: numbers, memory, loops. -/
theorem up_r (μ : pm_M) (j i : Nat) (v : Int32) : pm_up μ j i v j = upd (μ j) i v := if_pos rfl
theorem up_o {μ : pm_M} {j i a : Nat} {v : Int32} (h : a ≠ j) : pm_up μ j i v a = μ a := if_neg h
theorem row_r (μ : pm_M) (j : Nat) (g : Nat → Int32) : pm_row μ j g j = g := if_pos rfl
theorem row_o {μ : pm_M} {j a : Nat} {g : Nat → Int32} (h : a ≠ j) : pm_row μ j g a = μ a := if_neg h
theorem row_eq {μ ν : pm_M} {j : Nat} {g : Nat → Int32} (h1 : ν j = g) (h2 : ∀ a, a ≠ j → ν a = μ a) : ν = pm_row μ j g := by
  funext a
  by_cases h : a = j
  · rw [h, row_r, h1]
  · rw [row_o h, h2 a h]
theorem upd_s (f : Nat → Int32) (k : Nat) (x : Int32) : upd f k x k = x := if_pos rfl
theorem upd_n {f : Nat → Int32} {k j : Nat} {x : Int32} (h : j ≠ k) : upd f k x j = f j := if_neg h
theorem cp_o {μ : pm_M} {a b n c : Nat} (h : c ≠ b) : pm_cp μ a b n c = μ c := if_neg h
theorem cp_r {μ : pm_M} {a b n i : Nat} (h : i < n) : pm_cp μ a b n b i = μ a i := by
  unfold pm_cp
  rw [row_r]
  unfold va_cpy
  rw [if_pos ⟨Nat.zero_le _, by omega⟩]
  congr 1
  omega
theorem cp_g {μ : pm_M} {a b n i : Nat} (h : n ≤ i) : pm_cp μ a b n b i = μ b i := by
  unfold pm_cp
  rw [row_r]
  unfold va_cpy
  rw [if_neg (by omega)]
theorem ck_in {τ : Type} {k n : Nat} {o : Option τ} (h : k < n) (hn : n < 2 ^ 31) : pm_ck (nI k) n o = o := by
  unfold pm_ck
  rw [if_neg]
  rintro (h1 | h1)
  · exact nI_pos (by omega) h1
  · rw [nI_clamp (by omega)] at h1
    omega
theorem let_eq {α τ : Type} (x : α) (k : α → Option τ) : pm_let x k = k x := rfl
theorem jn_eq {α τ : Type} (J : α → Option τ) (T : (α → Option τ) → Option τ) : pm_jn J T = T J := rfl
/-- a counting loop, by what the state is behind k rounds -/
theorem it_for {σ ε τ : Type} {body : σ → (σ → Option τ) → (ε → Option τ) → Option τ} (st : Nat → σ) {e : ε} (n : Nat) {E : ε → Option τ} (hs : ∀ k, k < n → ∀ T : σ → Option τ, body (st k) T E = T (st (k + 1))) (hx : ∀ T : σ → Option τ, body (st n) T E = E e) : ∀ (d k F : Nat), k + d = n → d < F → pm_it body F (st k) E = E e
  | 0, k, F + 1, hk, _ => by
    have : k = n := by omega
    subst this
    exact hx _
  | d + 1, k, F + 1, hk, hF => by
    show body (st k) (fun v' => pm_it body F v' E) E = E e
    rw [hs k (by omega)]
    exact it_for st n hs hx d (k + 1) F (by omega) (by omega)
  | _, _, 0, _, h => by omega
/-- any loop: by a measure -/
theorem it_wp {σ ε τ : Type} {body : σ → (σ → Option τ) → (ε → Option τ) → Option τ} {E : ε → Option τ} (I : Nat → σ → Prop) (Q : Option τ → Prop) (h0 : ∀ s, ¬ I 0 s) (hs : ∀ k s, I (k + 1) s → ∀ T : σ → Option τ, (∀ s', I k s' → Q (T s')) → Q (body s T E)) : ∀ (F k : Nat) (s : σ), k ≤ F → I k s → Q (pm_it body F s E)
  | 0, k, s, hk, h => by
    have : k = 0 := by omega
    subst this
    exact absurd h (h0 s)
  | F + 1, 0, s, _, h => absurd h (h0 s)
  | F + 1, k + 1, s, hk, h => hs k s h (fun v' => pm_it body F v' E) (fun s' hs' => it_wp I Q h0 hs F k s' (by omega) hs')
theorem b_some {α β : Type} (x : α) (f : α → Option β) : (some x).bind f = f x := rfl
theorem i_0 : (0 : Int32) = nI 0 := rfl
theorem i_1 : (1 : Int32) = nI 1 := rfl
theorem i_7 : (7 : Int32) = nI 7 := rfl
theorem ix7 (a c : Nat) : (7 : Int32) * nI a + nI c = nI (7 * a + c) := by rw [i_7, pk_mul, nI_add]
theorem nI_lt0 {n : Nat} (h : n < 2 ^ 31) : ¬ nI n < 0 := nI_pos h
theorem in_or (x : Int32) {n : Nat} (hn : n < 2 ^ 31) : (x < 0 ∨ nI n ≤ x) ∨ ∃ j : Nat, j < n ∧ x = nI j := by
  rcases pk_ix x hn with h | h | h
  · exact Or.inl (Or.inl h)
  · exact Or.inl (Or.inr h)
  · exact Or.inr h
theorem not_both {x : Int32} {n : Nat} (h : nI n ≤ x) (hn : n < 2 ^ 31) : ¬ x < 0 := by
  intro h2
  have h3 := Int32.lt_of_le_of_lt h h2
  exact nI_pos hn h3
/-! a farm's number -/
theorem farm_in {j : Nat} (h : j < 7) : f_X9_isFarm (nI j) = some 1 := by
  unfold f_X9_isFarm
  rw [if_neg (nI_pos (by omega)), if_neg (by rw [i_7]; exact nI_ge h (by omega))]
theorem farm_out {x : Int32} (h : x < 0 ∨ nI 7 ≤ x) : f_X9_isFarm x = some 0 := by
  unfold f_X9_isFarm
  rcases h with h | h
  · rw [if_pos h]
  · rw [if_neg (not_both h (by omega)), if_pos (show (7 : Int32) ≤ x from h)]
theorem two_in {a c : Nat} (ha : a < 7) (hc : c < 7) (h : a ≠ c) : f_X9_areTwoFarms (nI a) (nI c) = some 1 := by
  unfold f_X9_areTwoFarms
  rw [farm_in ha, b_some, if_neg (by decide), farm_in hc, b_some, if_neg (by decide), if_neg (fun q => h ((nI_eq (by omega) (by omega)).mp q))]
theorem two_same {a : Nat} (ha : a < 7) : f_X9_areTwoFarms (nI a) (nI a) = some 0 := by
  unfold f_X9_areTwoFarms
  rw [farm_in ha, b_some, if_neg (by decide), b_some, if_neg (by decide), if_pos rfl]
theorem two_out1 {x y : Int32} (h : x < 0 ∨ nI 7 ≤ x) : f_X9_areTwoFarms x y = some 0 := by
  unfold f_X9_areTwoFarms
  rw [farm_out h, b_some, if_pos rfl]
theorem two_out2 {a : Nat} {y : Int32} (ha : a < 7) (h : y < 0 ∨ nI 7 ≤ y) : f_X9_areTwoFarms (nI a) y = some 0 := by
  unfold f_X9_areTwoFarms
  rw [farm_in ha, b_some, if_neg (by decide), farm_out h, b_some, if_pos rfl]
theorem x10_in_in {x lo hi : Int32} (h1 : lo ≤ x) (h2 : x ≤ hi) : f_X10_in x lo hi = some 1 := by
  unfold f_X10_in
  rw [if_neg (Int32.not_lt.mpr h1), if_neg (Int32.not_lt.mpr h2)]
theorem x10_in_lo {x lo hi : Int32} (h : x < lo) : f_X10_in x lo hi = some 0 := by
  unfold f_X10_in
  rw [if_pos h]
theorem x10_in_hi {x lo hi : Int32} (h : hi < x) : f_X10_in x lo hi = some 0 := by
  unfold f_X10_in
  by_cases h1 : x < lo
  · rw [if_pos h1]
  · rw [if_neg h1, if_pos h]
