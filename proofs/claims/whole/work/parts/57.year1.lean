/-! A YEAR -/
def lcg (x : Nat) : Nat := (75 * x + 74) % 65537
def kindY (d : Nat) : Nat := if d ≤ 2 then 0 else if d = 3 then 1 else if d = 4 then 2 else if d = 5 then 3 else 4
def numY (k t : Nat) : Nat := if k = 3 then 1 + t % 3 else t % 7
def stepY (R B : Nat → Int32) (x : Nat) : Nat → Int32 := if whyA B R (kindY (x / 7 % 8)) (x % 7) (numY (kindY (x / 7 % 8)) (x / 56)) = 0 then doA B (kindY (x / 7 % 8)) (x % 7) (numY (kindY (x / 7 % 8)) (x / 56)) else B
def yrA (R : Nat → Int32) : Nat → Nat → (Nat → Int32) → Nat → Int32
  | 0, _, B => B
  | n + 1, x, B => yrA R n (lcg x) (stepY R B (lcg x))
theorem lcg_lt (x : Nat) : lcg x < 65537 := by unfold lcg; omega
theorem i65537 : (65537 : Int32) = nI 65537 := by decide
theorem kindY_le (d : Nat) : kindY d ≤ 4 := by
  unfold kindY
  repeat' split
  all_goals omega
theorem yrng (x : Nat) : rng (kindY (x / 7 % 8)) (x % 7) (numY (kindY (x / 7 % 8)) (x / 56)) (nI (x % 7)) := by
  refine ⟨kindY_le _, fun _ => ⟨by omega, rfl⟩, fun h => ?_, fun h => ?_⟩
  · unfold numY; rw [if_neg (by omega)]; omega
  · unfold numY; rw [if_pos h]; omega
theorem stepY_ok {R B : Nat → Int32} {x : Nat} (h : okB B R) : okB (stepY R B x) R := by
  unfold stepY
  by_cases q : whyA B R (kindY (x / 7 % 8)) (x % 7) (numY (kindY (x / 7 % 8)) (x / 56)) = 0
  · rw [if_pos q]; exact okX h (yrng x) q
  · rw [if_neg q]; exact h
theorem yr_ok {R : Nat → Int32} : ∀ (n x : Nat) (B : Nat → Int32), okB B R → okB (yrA R n x B) R
  | 0, _, _, h => h
  | n + 1, x, B, h => yr_ok n (lcg x) _ (stepY_ok h)
theorem lcg_eq {x : Nat} (h : x < 65537) : pm_rem (((75 : Int32) * nI x) + (74 : Int32)) (65537 : Int32) = nI (lcg x) := by
  rw [show (75 : Int32) = nI 75 from rfl, pk_mul, show (74 : Int32) = nI 74 from rfl, nI_add, i65537]
  unfold lcg
  exact pk_rem (a := 75 * x + 74) (d := 65537) (by omega) (by omega) (by omega)
theorem d7 {x : Nat} (h : x < 65537) : nI x / 7 = nI (x / 7) := pk_div (a := x) (d := 7) (by omega) (by omega) (by omega)
theorem d56 {x : Nat} (h : x < 65537) : nI x / 56 = nI (x / 56) := pk_div (a := x) (d := 56) (by omega) (by omega) (by omega)
theorem r7 {x : Nat} (h : x < 65537) : pm_rem (nI x) 7 = nI (x % 7) := pk_rem (a := x) (d := 7) (by omega) (by omega) (by omega)
theorem r8 {x : Nat} (h : x < 65537) : pm_rem (nI x) 8 = nI (x % 8) := pk_rem (a := x) (d := 8) (by omega) (by omega) (by omega)
theorem r3 {x : Nat} (h : x < 65537) : pm_rem (nI x) 3 = nI (x % 3) := pk_rem (a := x) (d := 3) (by omega) (by omega) (by omega)
theorem drk : ∀ d, d < 8 → f_X2_drawnKind (nI d) = some (nI (kindY d)) := by decide +kernel
theorem nYj {k t : Nat} (hk : k ≤ 4) (ht : t < 65537) (J : Int32 → Option pm_M) : pm_jn J (fun j60 => (if nI k = (3 : Int32) then (j60 ((1 : Int32) + (pm_rem (nI t) (3 : Int32)))) else (j60 (pm_rem (nI t) (7 : Int32))))) = J (nI (numY k t)) := by
  rw [jn_if]
  unfold numY
  by_cases q : k = 3
  · rw [if_pos q, if_pos (by rw [q]; rfl), r3 ht, show (1 : Int32) = nI 1 from rfl, nI_add]
  · rw [if_neg q, if_neg (show ¬ nI k = 3 from nI_ne (c := 3) q (by omega) (by omega)), r7 ht]
