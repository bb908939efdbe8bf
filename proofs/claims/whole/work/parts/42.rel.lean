/-! THE RELATION between the class's cells and the model's -/
def okS (v : Int32) : Prop := v = -6 ∨ ∃ k : Nat, k ≤ 9 ∧ v = nI k
def rmoor (s r p h : Nat → Int32) (d : Int32) (B R : Nat → Int32) : Prop := (∀ i, i < 49 → s i = B i) ∧ (∀ i, i < 49 → r i = R i) ∧ (∀ f, f < 7 → p f = B (49 + f)) ∧ (∀ f, f < 7 → h f = B (56 + f)) ∧ d = B 63
def okB (B R : Nat → Int32) : Prop := (∀ a c, a < 7 → c < 7 → B (7 * a + c) = B (7 * c + a)) ∧ (∀ a, a < 7 → B (8 * a) = -6) ∧ (∀ i, i < 49 → okS (B i)) ∧ (∀ f, f < 7 → ∃ p : Nat, p < 7 ∧ B (49 + f) = nI p) ∧ (∀ f, f < 7 → ∃ c : Nat, c ≤ 99 ∧ B (56 + f) = nI c) ∧ (∃ d : Nat, d ≤ 99 ∧ B 63 = nI d) ∧
  (∀ a c, a < 7 → c < 7 → R (7 * a + c) = R (7 * c + a)) ∧ (∀ a, a < 7 → R (8 * a) = 0) ∧ (∀ i, i < 49 → ∃ m : Nat, m ≤ 9 ∧ R i = nI m)
def rlik (rows ranks rws : Nat → Int32) : Prop := ∀ s o : Nat, s < 2 → o < 4 → ∃ d : Nat → Nat, (∀ i, i < 4 → d i < 4 ∧ rws (16 * s + 4 * o + i) = nI (d i) ∧ ranks (16 * s + 4 * o + d i) = nI i) ∧ (∀ i j, i < 4 → j < 4 → d i = d j → i = j) ∧ rows (4 * s + o) = nI (1000 * d 0 + 100 * d 1 + 10 * d 2 + d 3)
def downB (c days post : Nat) : Bool := decide (c / 10 ≤ post ∧ post ≤ c / 10 + days * (c % 10))
def sfit (sg : Nat → Int32) (N c : Nat) : Bool := (List.range N).all (fun j => downB c (sg (3 * j)).toNatClampNeg (sg (3 * j + 1)).toNatClampNeg == decide (sg (3 * j + 2) = 1))
def fitL (sg : Nat → Int32) (N : Nat) : List Nat := (List.range 410).filter (sfit sg N)
def rsig (cs : Nat → Int32) (f c : Int32) (sg : Nat → Int32) (n : Int32) : Prop := ∃ N : Nat, N ≤ 8 ∧ c = nI N ∧ n = nI N ∧ (∀ j, j < N → (∃ d : Nat, d ≤ 5 ∧ sg (3 * j) = nI d) ∧ (∃ p : Nat, p ≤ 99 ∧ sg (3 * j + 1) = nI p) ∧ (sg (3 * j + 2) = 0 ∨ sg (3 * j + 2) = 1)) ∧ f = nI (fitL sg N).length ∧ ∀ k x : Nat, (fitL sg N)[k]? = some x → cs k = nI x
def rpad (sgn : Nat → Int32) (cnt : Int32) (pd : Nat → Int32) (n : Int32) : Prop := ∃ N : Nat, N ≤ 60 ∧ cnt = nI N ∧ n = nI N ∧ ∀ i, i < N → sgn i = pd i ∧ ∃ c : Nat, 33 ≤ c ∧ c ≤ 126 ∧ pd i = nI c
/-- the worth of a heap of rails -/
def mexf : Nat → Nat → Nat → Nat
  | 0, _, v => v
  | n + 1, bits, v => if bits.testBit v then mexf n bits (v + 1) else v
def worthL : Nat → List Nat
  | 0 => []
  | n + 1 => let w := worthL n; w ++ [mexf 32 ((List.range (n + 1)).foldl (fun acc l => if 1 ≤ l ∧ 2 * l < n then acc ||| (1 <<< (w.getD l 0 ^^^ w.getD (n - l) 0)) else acc) 0) 0]
def wtab (n : Nat) : Nat := (worthL 61).getD n 0
def R1 (μ : pm_M) : Prop := rmoor (μ 3) (μ 4) (μ 5) (μ 6) (μ 2 4) (μ 51) (μ 53) ∧ okB (μ 51) (μ 53)
def R2 (μ : pm_M) : Prop := rlik (μ 8) (μ 9) (μ 54)
def R3 (μ : pm_M) : Prop := rsig (μ 11) (μ 10 2) (μ 10 3) (μ 55) (μ 50 4)
def R4 (μ : pm_M) : Prop := rpad (μ 43) (μ 42 1) (μ 56) (μ 50 6)
def rimg (μ : pm_M) (w k : Nat) : Prop := μ w 3 = μ 67 k ∧ (μ 67 k = 0 ∨ (μ 67 k = 1 ∧ rmoor (μ (w + 2)) (μ (w + 3)) (μ (w + 4)) (μ (w + 5)) (μ (w + 1) 4) (fun i => μ 66 (180 * k + i)) (fun i => μ 66 (180 * k + 64 + i)) ∧ okB (fun i => μ 66 (180 * k + i)) (fun i => μ 66 (180 * k + 64 + i)) ∧ rlik (μ (w + 7)) (μ (w + 8)) (fun i => μ 66 (180 * k + 113 + i)) ∧ rsig (μ (w + 10)) (μ (w + 9) 2) (μ (w + 9) 3) (fun i => μ 66 (180 * k + 145 + i)) (μ 66 (180 * k + 170))))
def R5 (μ : pm_M) : Prop := rimg μ 13 0 ∧ rimg μ 25 1
def R6 (μ : pm_M) : Prop := ∀ n, n ≤ 60 → μ 49 n = nI (wtab n)
def Rel (μ : pm_M) : Prop := R1 μ ∧ R2 μ ∧ R3 μ ∧ R4 μ ∧ R5 μ ∧ R6 μ
theorem R1_c {μ ν : pm_M} (h2 : ν 2 = μ 2) (h3 : ν 3 = μ 3) (h4 : ν 4 = μ 4) (h5 : ν 5 = μ 5) (h6 : ν 6 = μ 6) (h51 : ν 51 = μ 51) (h53 : ν 53 = μ 53) (h : R1 μ) : R1 ν := by
  unfold R1 at *
  rw [h2, h3, h4, h5, h6, h51, h53]
  exact h
theorem R2_c {μ ν : pm_M} (h8 : ν 8 = μ 8) (h9 : ν 9 = μ 9) (h54 : ν 54 = μ 54) (h : R2 μ) : R2 ν := by
  unfold R2 at *
  rw [h8, h9, h54]
  exact h
theorem R3_c {μ ν : pm_M} (h10 : ν 10 = μ 10) (h11 : ν 11 = μ 11) (h55 : ν 55 = μ 55) (h50 : ν 50 4 = μ 50 4) (h : R3 μ) : R3 ν := by
  unfold R3 at *
  rw [h10, h11, h55, h50]
  exact h
theorem R4_c {μ ν : pm_M} (h42 : ν 42 = μ 42) (h43 : ν 43 = μ 43) (h56 : ν 56 = μ 56) (h50 : ν 50 6 = μ 50 6) (h : R4 μ) : R4 ν := by
  unfold R4 at *
  rw [h42, h43, h56, h50]
  exact h
theorem rimg_c {μ ν : pm_M} {w k : Nat} (hw : ∀ j, w ≤ j → j ≤ w + 10 → ν j = μ j) (h66 : ν 66 = μ 66) (h67 : ν 67 = μ 67) (h : rimg μ w k) : rimg ν w k := by
  unfold rimg at *
  rw [hw w (by omega) (by omega), hw (w + 1) (by omega) (by omega), hw (w + 2) (by omega) (by omega), hw (w + 3) (by omega) (by omega), hw (w + 4) (by omega) (by omega), hw (w + 5) (by omega) (by omega), hw (w + 7) (by omega) (by omega), hw (w + 8) (by omega) (by omega), hw (w + 9) (by omega) (by omega), hw (w + 10) (by omega) (by omega), h66, h67]
  exact h
theorem R5_c {μ ν : pm_M} (hw : ∀ j, 13 ≤ j → j ≤ 35 → j ≠ 24 → ν j = μ j) (h66 : ν 66 = μ 66) (h67 : ν 67 = μ 67) (h : R5 μ) : R5 ν :=
  ⟨rimg_c (fun j h1 h2 => hw j h1 (by omega) (by omega)) h66 h67 h.1, rimg_c (fun j h1 h2 => hw j (by omega) (by omega) (by omega)) h66 h67 h.2⟩
theorem R6_c {μ ν : pm_M} (h49 : ν 49 = μ 49) (h : R6 μ) : R6 ν := fun n hn => by rw [h49]; exact h n hn
/-- rows in which nothing is kept from call to call -/
def scr (j : Nat) : Bool := j == 12 || j == 24 || j == 36 || (Nat.ble 37 j && Nat.ble j 41) || j == 44 || j == 46 || j == 47 || j == 52 || (Nat.ble 57 j && Nat.ble j 65)
def fr0 (μ ν : pm_M) : Prop := (∀ j, scr j = false → j ≠ 50 → ν j = μ j) ∧ ν 50 4 = μ 50 4 ∧ ν 50 6 = μ 50 6
theorem fr0.rf (μ : pm_M) : fr0 μ μ := ⟨fun _ _ _ => rfl, rfl, rfl⟩
theorem fr0.tr {μ ν ξ : pm_M} (h1 : fr0 μ ν) (h2 : fr0 ν ξ) : fr0 μ ξ := ⟨fun j a b => (h2.1 j a b).trans (h1.1 j a b), h2.2.1.trans h1.2.1, h2.2.2.trans h1.2.2⟩
theorem fr0.up {μ ν : pm_M} {j i : Nat} {v : Int32} (h : fr0 μ ν) (hj : scr j = true) : fr0 μ (pm_up ν j i v) := by
  refine ⟨fun a h1 h2 => ?_, ?_, ?_⟩
  · rw [up_o (fun q => by rw [q, hj] at h1; cases h1)]; exact h.1 a h1 h2
  · rw [up_o (fun q => by rw [← q] at hj; cases hj)]; exact h.2.1
  · rw [up_o (fun q => by rw [← q] at hj; cases hj)]; exact h.2.2
theorem fr0.row {μ ν : pm_M} {j : Nat} {g : Nat → Int32} (h : fr0 μ ν) (hj : scr j = true) : fr0 μ (pm_row ν j g) := by
  refine ⟨fun a h1 h2 => ?_, ?_, ?_⟩
  · rw [row_o (fun q => by rw [q, hj] at h1; cases h1)]; exact h.1 a h1 h2
  · rw [row_o (fun q => by rw [← q] at hj; cases hj)]; exact h.2.1
  · rw [row_o (fun q => by rw [← q] at hj; cases hj)]; exact h.2.2
theorem fr0.up50 {μ ν : pm_M} {i : Nat} {v : Int32} (h : fr0 μ ν) (h4 : i ≠ 4) (h6 : i ≠ 6) : fr0 μ (pm_up ν 50 i v) := by
  refine ⟨fun a h1 h2 => ?_, ?_, ?_⟩
  · rw [up_o h2]; exact h.1 a h1 h2
  · rw [up_r, upd_n h4.symm]; exact h.2.1
  · rw [up_r, upd_n h6.symm]; exact h.2.2
theorem Rel_fr {μ ν : pm_M} (hf : fr0 μ ν) (h : Rel μ) : Rel ν := by
  obtain ⟨h1, h2, h3, h4, h5, h6⟩ := h
  have f := fun j hj hk => hf.1 j hj hk
  refine ⟨R1_c (f 2 rfl (by decide)) (f 3 rfl (by decide)) (f 4 rfl (by decide)) (f 5 rfl (by decide)) (f 6 rfl (by decide)) (f 51 rfl (by decide)) (f 53 rfl (by decide)) h1, R2_c (f 8 rfl (by decide)) (f 9 rfl (by decide)) (f 54 rfl (by decide)) h2, R3_c (f 10 rfl (by decide)) (f 11 rfl (by decide)) (f 55 rfl (by decide)) hf.2.1 h3, R4_c (f 42 rfl (by decide)) (f 43 rfl (by decide)) (f 56 rfl (by decide)) hf.2.2 h4, R5_c (fun j a b c => f j ?_ (by omega)) (f 66 rfl (by decide)) (f 67 rfl (by decide)) h5, R6_c (f 49 rfl (by decide)) h6⟩
  unfold scr
  have e1 : (j == 12) = false := beq_eq_false_iff_ne.mpr (by omega)
  have e2 : (j == 24) = false := beq_eq_false_iff_ne.mpr c
  have e3 : (j == 36) = false := beq_eq_false_iff_ne.mpr (by omega)
  have e4 : Nat.ble 37 j = false := by rw [Bool.eq_false_iff]; exact fun q => by have := Nat.le_of_ble_eq_true q; omega
  have e5 : (j == 44) = false := beq_eq_false_iff_ne.mpr (by omega)
  have e6 : (j == 46) = false := beq_eq_false_iff_ne.mpr (by omega)
  have e7 : (j == 47) = false := beq_eq_false_iff_ne.mpr (by omega)
  have e8 : (j == 52) = false := beq_eq_false_iff_ne.mpr (by omega)
  have e9 : Nat.ble 57 j = false := by rw [Bool.eq_false_iff]; exact fun q => by have := Nat.le_of_ble_eq_true q; omega
  rw [e1, e2, e3, e4, e5, e6, e7, e8, e9]
  rfl
/-! copying a row by a loop -/
def pre (k : Nat) (f h : Nat → Int32) : Nat → Int32 := fun i => if i < k then f i else h i
theorem pre_0 (f h : Nat → Int32) : pre 0 f h = h := by
  funext i
  unfold pre
  rw [if_neg (by omega)]
theorem pre_s (k : Nat) (f h : Nat → Int32) : upd (pre k f h) k (f k) = pre (k + 1) f h := by
  funext i
  unfold pre upd
  by_cases h1 : i = k
  · rw [if_pos h1, if_pos (by omega), h1]
  · rw [if_neg h1]
    dsimp only
    by_cases h2 : i < k
    · rw [if_pos h2, if_pos (by omega)]
    · rw [if_neg h2, if_neg (by omega)]
theorem pre_lt {k i : Nat} {f h : Nat → Int32} (hi : i < k) : pre k f h i = f i := if_pos hi
theorem pre_ge {k i : Nat} {f h : Nat → Int32} (hi : k ≤ i) : pre k f h i = h i := if_neg (by omega)
theorem up_row (μ : pm_M) (j k : Nat) (g : Nat → Int32) (v : Int32) : pm_up (pm_row μ j g) j k v = pm_row μ j (upd g k v) := by
  funext a
  by_cases h : a = j
  · rw [h, up_r, row_r, row_r]
  · rw [up_o h, row_o h, row_o h]
theorem row_id (μ : pm_M) (j : Nat) : pm_row μ j (μ j) = μ := pm_row_self μ j
theorem asNow_eq (μ : pm_M) : f_X10_asNow μ = some (pm_up (pm_up (pm_up (pm_row μ 52 (pre 64 (μ 51) (μ 52))) 50 8 0) 50 9 (-6)) 50 10 (-6)) := by
  unfold f_X10_asNow
  refine it_for (fun k => (nI k, pm_row μ 52 (pre k (μ 51) (μ 52)))) 64 (fun k hk T => ?_) (fun T => ?_) 64 0 5000 (by omega) (by omega) |> fun h => (by rw [pre_0, row_id] at h; exact h)
  · show (if (64 : Int32) ≤ nI k then _ else _) = _
    rw [if_neg (by rw [show (64 : Int32) = nI 64 from rfl]; exact nI_ge hk (by omega))]
    dsimp only
    rw [ck_in hk (by omega), ck_in hk (by omega), nI_clamp (by omega), let_eq, row_o (by decide), up_row, pre_s, nI_1]
  · rfl
theorem asNow_fr (μ : pm_M) : fr0 μ (pm_up (pm_up (pm_up (pm_row μ 52 (pre 64 (μ 51) (μ 52))) 50 8 0) 50 9 (-6)) 50 10 (-6)) :=
  ((((fr0.rf μ).row rfl).up50 (by decide) (by decide)).up50 (by decide) (by decide)).up50 (by decide) (by decide)
theorem jn_if {α τ : Type} {c : Prop} [Decidable c] (J : α → Option τ) (x y : α) : pm_jn J (fun j => if c then j x else j y) = J (if c then x else y) := by
  unfold pm_jn
  split <;> rfl
