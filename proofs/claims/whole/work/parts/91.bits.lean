/-! MENDS: sets of farms as bits -/
def bt (S l : Nat) : Bool := decide (S / 2 ^ l % 2 = 1)
def pc7 (S : Nat) : Nat := S / 1 % 2 + S / 2 % 2 + S / 4 % 2 + S / 8 % 2 + S / 16 % 2 + S / 32 % 2 + S / 64 % 2
theorem pc7_le (S : Nat) : pc7 S ≤ 7 := by unfold pc7; omega
theorem b_1 : ∀ S, S < 128 → ∀ l, l < 7 → ((nI S >>> (nI l &&& 31)) &&& (1 : Int32) = 1 ↔ bt S l = true) := by decide +kernel
theorem b_2 : ∀ S, S < 128 → ∀ l, l < 7 → bt S l = true → 2 ^ l ≤ S ∧ bt (S - 2 ^ l) l = false ∧ pc7 (S - 2 ^ l) + 1 = pc7 S ∧ nI S &&& (((1 : Int32) <<< (nI l &&& 31)) ^^^ (-1)) = nI (S - 2 ^ l) := by decide +kernel
theorem b_3 : ∀ S, S < 128 → ∀ l, l < 7 → bt S l = false → S + 2 ^ l < 128 ∧ bt (S + 2 ^ l) l = true ∧ nI S ||| ((1 : Int32) <<< (nI l &&& 31)) = nI (S + 2 ^ l) ∧ nI S &&& (((1 : Int32) <<< (nI l &&& 31)) ^^^ (-1)) = nI S := by decide +kernel
def b4c (S l x : Nat) : Bool := (!bt S l || (x == l) || (bt (S - 2 ^ l) x == bt S x)) && (bt S l || (x == l) || (bt (S + 2 ^ l) x == bt S x))
theorem b_4a : (List.range 128).all (fun S => (List.range 7).all (fun l => (List.range 7).all (fun x => b4c S l x))) = true := by decide +kernel
theorem b_4 {S l x : Nat} (hS : S < 128) (hl : l < 7) (hx : x < 7) : (bt S l = true → x ≠ l → bt (S - 2 ^ l) x = bt S x) ∧ (bt S l = false → x ≠ l → bt (S + 2 ^ l) x = bt S x) := by
  have h := all_r (all_r (all_r b_4a S hS) l hl) x hx
  unfold b4c at h
  refine ⟨fun h1 n => ?_, fun h1 n => ?_⟩
  · rw [h1, beq_eq_false_iff_ne.mpr n] at h
    have h := (Bool.and_eq_true _ _ ▸ h : _ ∧ _).1
    exact beq_iff_eq.mp h
  · rw [h1, beq_eq_false_iff_ne.mpr n] at h
    have h := (Bool.and_eq_true _ _ ▸ h : _ ∧ _).2
    exact beq_iff_eq.mp h
theorem b_5 : ∀ l, l < 7 → (1 : Int32) <<< (nI l &&& 31) = nI (2 ^ l) ∧ 2 ^ l < 128 := by decide +kernel
theorem b_6 : ∀ l, l < 7 → Nat.testBit 4294967295 l = true := by decide +kernel
theorem nx_and (a b : Nat) : nI a &&& nI b = nI (a &&& b) := by
  apply Int32.toBitVec_inj.1
  show BitVec.ofNat 32 a &&& BitVec.ofNat 32 b = BitVec.ofNat 32 (a &&& b)
  apply BitVec.eq_of_getLsbD_eq
  intro i hi
  simp [hi]
theorem nx_xor (a b : Nat) : nI a ^^^ nI b = nI (a ^^^ b) := by
  apply Int32.toBitVec_inj.1
  show BitVec.ofNat 32 a ^^^ BitVec.ofNat 32 b = BitVec.ofNat 32 (a ^^^ b)
  apply BitVec.eq_of_getLsbD_eq
  intro i hi
  simp [hi]
theorem m1_n : (-1 : Int32) = nI 4294967295 := by decide +kernel
theorem bt_0 (l : Nat) : bt 0 l = false := by
  unfold bt
  rw [Nat.zero_div]
  rfl
theorem bt_tb (S l : Nat) : bt S l = S.testBit l := Nat.testBit_eq_decide_div_mod_eq.symm
theorem left_bit {G B l : Nat} (hG : G < 128) (hl : l < 7) : ((nI G &&& (nI B ^^^ (-1))) >>> (nI l &&& 31)) &&& (1 : Int32) = 1 ↔ bt G l = true ∧ bt B l = false := by
  have hlt : G &&& (B ^^^ 4294967295) < 128 := Nat.lt_of_le_of_lt Nat.and_le_left hG
  rw [m1_n, nx_xor, nx_and, b_1 _ hlt l hl, bt_tb, bt_tb, bt_tb, Nat.testBit_and, Nat.testBit_xor, b_6 l hl]
  cases G.testBit l <;> cases B.testBit l <;> decide
theorem sub_le {S G : Nat} (hS : S < 128) (h : ∀ l, l < 7 → bt S l = true → bt G l = true) : S ≤ G := by
  have e : S &&& G = S := by
    apply Nat.eq_of_testBit_eq
    intro i
    rw [Nat.testBit_and]
    by_cases hi : i < 7
    · have := h i hi
      rw [bt_tb, bt_tb] at this
      cases q : S.testBit i
      · rfl
      · rw [this q]
        rfl
    · have hp : 2 ^ 7 ≤ 2 ^ i := Nat.pow_le_pow_right (by omega) (by omega)
      rw [Nat.testBit_lt_two_pow (show S < 2 ^ i by omega)]
      rfl
  rw [← e]
  exact Nat.and_le_right
