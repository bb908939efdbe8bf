/-! least ones, tables -/
def mnf (a : Nat) (f : Nat → Nat) : Nat → Nat
  | 0 => a
  | n + 1 => min (mnf a f n) (f n)
theorem mnf_a {a : Nat} {f : Nat → Nat} : ∀ n, mnf a f n ≤ a
  | 0 => Nat.le_refl _
  | n + 1 => Nat.le_trans (Nat.min_le_left _ _) (mnf_a n)
theorem mnf_f {a x : Nat} {f : Nat → Nat} : ∀ n, x < n → mnf a f n ≤ f x
  | 0, h => by omega
  | n + 1, h => by
    show min (mnf a f n) (f n) ≤ f x
    rcases Nat.eq_or_lt_of_le (show x ≤ n by omega) with z | z
    · subst z; exact Nat.min_le_right _ _
    · exact Nat.le_trans (Nat.min_le_left _ _) (mnf_f n z)
theorem mnf_g {a v : Nat} {f : Nat → Nat} (ha : v ≤ a) : ∀ n, (∀ x, x < n → v ≤ f x) → v ≤ mnf a f n
  | 0, _ => ha
  | n + 1, h => Nat.le_min.mpr ⟨mnf_g ha n (fun x hx => h x (by omega)), h n (by omega)⟩
theorem mnf_cg {a : Nat} {f g : Nat → Nat} : ∀ n, (∀ x, x < n → f x = g x) → mnf a f n = mnf a g n
  | 0, _ => rfl
  | n + 1, h => by
    show min (mnf a f n) (f n) = min (mnf a g n) (g n)
    rw [mnf_cg n (fun x hx => h x (by omega)), h n (by omega)]
theorem mnf_at {a : Nat} {f : Nat → Nat} : ∀ n, mnf a f n = a ∨ ∃ x, x < n ∧ mnf a f n = f x
  | 0 => Or.inl rfl
  | n + 1 => by
    by_cases q : mnf a f n ≤ f n
    · have e : mnf a f (n + 1) = mnf a f n := Nat.min_eq_left q
      rcases mnf_at (a := a) (f := f) n with h | ⟨x, hx, h⟩
      · exact Or.inl (e.trans h)
      · exact Or.inr ⟨x, by omega, e.trans h⟩
    · exact Or.inr ⟨n, by omega, Nat.min_eq_right (by omega)⟩
theorem mnf_cap {a b : Nat} {f g : Nat → Nat} (hab : min a 1000 = min b 1000) : ∀ n, (∀ x, x < n → min (f x) 1000 = min (g x) 1000) → min (mnf a f n) 1000 = min (mnf b g n) 1000
  | 0, _ => hab
  | n + 1, h => by
    have h1 := mnf_cap hab n (fun x hx => h x (by omega))
    have h2 := h n (by omega)
    show min (min (mnf a f n) (f n)) 1000 = min (min (mnf b g n) (g n)) 1000
    omega
def tabR (st : (Nat → Nat → Nat) → Nat → Nat → Nat) : Nat → Nat → Nat → Nat
  | 0 => fun _ _ => 0
  | n + 1 => fun S l => if S = n then st (tabR st n) n l else tabR st n S l
def causal (st : (Nat → Nat → Nat) → Nat → Nat → Nat) : Prop := ∀ (t t' : Nat → Nat → Nat) (S l : Nat), (∀ S', S' < S → ∀ x, t S' x = t' S' x) → st t S l = st t' S l
theorem tabR_k {st : (Nat → Nat → Nat) → Nat → Nat → Nat} {S l : Nat} : ∀ k, S < k → tabR st k S l = st (tabR st S) S l
  | 0, h => by omega
  | k + 1, h => by
    show (if S = k then st (tabR st k) k l else tabR st k S l) = _
    by_cases q : S = k
    · subst q; rw [if_pos rfl]
    · rw [if_neg q]; exact tabR_k k (by omega)
theorem tabR_fix {st : (Nat → Nat → Nat) → Nat → Nat → Nat} (hc : causal st) {N S l : Nat} (h : S < N) : tabR st N S l = st (tabR st N) S l := by
  rw [tabR_k N h]
  refine hc _ _ S l (fun S' hS x => ?_)
  rw [tabR_k S hS, tabR_k N (by omega)]
theorem bt_pos {S l : Nat} (h : bt S l = true) : S - 2 ^ l < S := by
  have hp : 0 < 2 ^ l := Nat.two_pow_pos l
  by_cases q : S = 0
  · rw [q, bt_0] at h; cases h
  · omega
def stT (h G : Nat) (dl : Nat → Nat) (t : Nat → Nat → Nat) (S l : Nat) : Nat := if S = 2 ^ h ∧ l = h then 0 else if bt S l = true ∧ bt G l = true then mnf 1000 (fun x => t (S - 2 ^ l) x + dl (7 * x + l)) 7 else 1000
def stC (h : Nat) (D : Nat → Nat) (t : Nat → Nat → Nat) (S l : Nat) : Nat := if bt S l = true then mnf (if S - 2 ^ l = 0 then D (7 * h + l) else 1000000) (fun x => if bt (S - 2 ^ l) x = true then t (S - 2 ^ l) x + D (7 * x + l) else 1000000) 7 else 1000000
theorem stT_c (h G : Nat) (dl : Nat → Nat) : causal (stT h G dl) := fun t t' S l ht => by
  unfold stT
  by_cases q : S = 2 ^ h ∧ l = h
  · rw [if_pos q, if_pos q]
  · rw [if_neg q, if_neg q]
    by_cases z : bt S l = true ∧ bt G l = true
    · rw [if_pos z, if_pos z]
      exact mnf_cg 7 (fun x _ => by rw [ht _ (bt_pos z.1)])
    · rw [if_neg z, if_neg z]
theorem stC_c (h : Nat) (D : Nat → Nat) : causal (stC h D) := fun t t' S l ht => by
  unfold stC
  by_cases z : bt S l = true
  · rw [if_pos z, if_pos z]
    exact mnf_cg 7 (fun x _ => by rw [ht _ (bt_pos z)])
  · rw [if_neg z, if_neg z]
section TO
variable {h G N : Nat} {dl D : Nat → Nat}
def tht (h G : Nat) (dl : Nat → Nat) (N : Nat) : Nat → Nat → Nat := tabR (stT h G dl) N
def thc (h : Nat) (D : Nat → Nat) (N : Nat) : Nat → Nat → Nat := tabR (stC h D) N
theorem tht_eq {S l : Nat} (hS : S < N) : tht h G dl N S l = stT h G dl (tht h G dl N) S l := tabR_fix (stT_c h G dl) hS
theorem thc_eq {S l : Nat} (hS : S < N) : thc h D N S l = stC h D (thc h D N) S l := tabR_fix (stC_c h D) hS
/-- where nobody has been: too far -/
theorem tht_far (hN : N = 128) (hh : h < 7) (hGh : bt G h = false) {S x : Nat} (hS : S < 128) (hSh : bt S h = false) (hx : x < 7) (hn : bt S x = false) (h0 : S ≠ 0 ∨ x ≠ h) : tht h G dl N (S + 2 ^ h) x = 1000 := by
  have hlt := (b_3 S hS h hh hSh).1
  rw [tht_eq (by omega)]
  unfold stT
  rw [if_neg (by omega), if_neg]
  rintro ⟨a, b⟩
  by_cases q : x = h
  · rw [q, hGh] at b; cases b
  · rw [(b_4 hS hh hx).2 hSh q, hn] at a; cases a
theorem tht_home (hN : N = 128) (hh : h < 7) : tht h G dl N (2 ^ h) h = 0 := by
  rw [tht_eq (by have := (b_5 h hh).2; omega)]
  exact if_pos ⟨rfl, rfl⟩
theorem link (hN : N = 128) (hh : h < 7) (hGh : bt G h = false) (hD : ∀ i, D i ≤ 1000000) (hdl : ∀ i, dl i = min (D i) 1000) : ∀ n S, S < n → S < 128 → S ≠ 0 → (∀ l, l < 7 → bt S l = true → bt G l = true) → ∀ l, l < 7 → bt S l = true → tht h G dl N (S + 2 ^ h) l = min (thc h D N S l) 1000
  | 0, S, hn, _, _, _, _, _, _ => by omega
  | n + 1, S, hn, hS, h0, hsub, l, hl, hb => by
    have hSh : bt S h = false := by
      cases q : bt S h
      · rfl
      · rw [hsub h hh q] at hGh; cases hGh
    have hlh : l ≠ h := fun z => by rw [z, hSh] at hb; cases hb
    have hlt := (b_3 S hS h hh hSh).1
    have h2 := b_2 S hS l hl hb
    have hpl := bt_pos hb
    have eS : S + 2 ^ h - 2 ^ l = (S - 2 ^ l) + 2 ^ h := Nat.sub_add_comm h2.1
    have hSh' : bt (S - 2 ^ l) h = false := by rw [(b_4 hS hl hh).1 hb (fun z => hlh z.symm)]; exact hSh
    have e1 : tht h G dl N (S + 2 ^ h) l = mnf 1000 (fun x => tht h G dl N ((S - 2 ^ l) + 2 ^ h) x + dl (7 * x + l)) 7 := by
      rw [tht_eq (by omega)]
      unfold stT
      rw [if_neg (by omega), if_pos ⟨by rw [(b_4 hS hh hl).2 hSh hlh]; exact hb, hsub l hl hb⟩, eS]
    have e2 : thc h D N S l = mnf (if S - 2 ^ l = 0 then D (7 * h + l) else 1000000) (fun x => if bt (S - 2 ^ l) x = true then thc h D N (S - 2 ^ l) x + D (7 * x + l) else 1000000) 7 := by
      rw [thc_eq (by omega)]
      unfold stC
      rw [if_pos hb]
    rw [e1, e2]
    have hDh := hD (7 * h + l)
    have hlD := hdl (7 * h + l)
    by_cases q : S - 2 ^ l = 0
    · rw [if_pos q, q]
      have c1 : mnf (D (7 * h + l)) (fun x => if bt 0 x = true then thc h D N 0 x + D (7 * x + l) else 1000000) 7 = D (7 * h + l) :=
        Nat.le_antisymm (mnf_a 7) (mnf_g (Nat.le_refl _) 7 (fun x _ => by rw [bt_0, if_neg (by decide)]; exact hDh))
      have c2 : mnf 1000 (fun x => tht h G dl N (0 + 2 ^ h) x + dl (7 * x + l)) 7 = dl (7 * h + l) := by
        refine Nat.le_antisymm ?_ (mnf_g (by omega) 7 (fun x hx => ?_))
        · have := mnf_f (a := 1000) (f := fun x => tht h G dl N (0 + 2 ^ h) x + dl (7 * x + l)) 7 hh
          rw [Nat.zero_add, tht_home hN hh, Nat.zero_add] at this
          rw [Nat.zero_add]
          exact this
        · by_cases z : x = h
          · subst z; omega
          · have := tht_far (dl := dl) hN hh hGh (S := 0) (x := x) (by omega) (bt_0 h) hx (bt_0 x) (Or.inr z)
            omega
      rw [c1, c2, hlD]
    · rw [if_neg q]
      have cap := mnf_cap (a := 1000) (b := 1000000) (f := fun x => tht h G dl N ((S - 2 ^ l) + 2 ^ h) x + dl (7 * x + l)) (g := fun x => if bt (S - 2 ^ l) x = true then thc h D N (S - 2 ^ l) x + D (7 * x + l) else 1000000) (by omega) 7 (fun x hx => by
        have hx1 := hdl (7 * x + l)
        by_cases z : bt (S - 2 ^ l) x = true
        · have hxl : x ≠ l := fun y => by rw [y, h2.2.1] at z; cases z
          have hsub' : ∀ y, y < 7 → bt (S - 2 ^ l) y = true → bt G y = true := fun y hy hb' => by
            have hyl : y ≠ l := fun w => by rw [w, h2.2.1] at hb'; cases hb'
            exact hsub y hy (by rw [← (b_4 hS hl hy).1 hb hyl]; exact hb')
          have ih := link hN hh hGh hD hdl n (S - 2 ^ l) (by omega) (by omega) q hsub' x hx z
          rw [if_pos z, ih]
          omega
        · have z' : bt (S - 2 ^ l) x = false := by cases w : bt (S - 2 ^ l) x; rfl; exact absurd w z
          have := tht_far (dl := dl) hN hh hGh (S := S - 2 ^ l) (x := x) (by omega) hSh' hx z' (Or.inl q)
          rw [if_neg z, this]
          omega)
      have le := mnf_a (a := 1000) (f := fun x => tht h G dl N ((S - 2 ^ l) + 2 ^ h) x + dl (7 * x + l)) 7
      omega
theorem thc_54 (hN : N = 128) (hh : h < 7) (h54 : ∀ i, i < 49 → D i < 1000000 → D i ≤ 54) : ∀ n S, S < n → S < 128 → ∀ l, l < 7 → bt S l = true → thc h D N S l < 1000000 → thc h D N S l ≤ 54 * pc7 S
  | 0, S, hn, _, _, _, _, _ => by omega
  | n + 1, S, hn, hS, l, hl, hb, hlt => by
    have h2 := b_2 S hS l hl hb
    have hpl := bt_pos hb
    have e2 : thc h D N S l = mnf (if S - 2 ^ l = 0 then D (7 * h + l) else 1000000) (fun x => if bt (S - 2 ^ l) x = true then thc h D N (S - 2 ^ l) x + D (7 * x + l) else 1000000) 7 := by
      rw [thc_eq (by omega)]
      unfold stC
      rw [if_pos hb]
    rw [e2] at hlt ⊢
    rcases mnf_at (a := if S - 2 ^ l = 0 then D (7 * h + l) else 1000000) (f := fun x => if bt (S - 2 ^ l) x = true then thc h D N (S - 2 ^ l) x + D (7 * x + l) else 1000000) 7 with z | ⟨x, hx, z⟩
    · rw [z] at hlt ⊢
      by_cases q : S - 2 ^ l = 0
      · rw [if_pos q] at hlt ⊢
        have := h54 (7 * h + l) (by omega) hlt
        omega
      · rw [if_neg q] at hlt; omega
    · rw [z] at hlt ⊢
      by_cases q : bt (S - 2 ^ l) x = true
      · rw [if_pos q] at hlt ⊢
        have a1 := thc_54 hN hh h54 n (S - 2 ^ l) (by omega) (by omega) x hx q (by omega)
        have a2 := h54 (7 * x + l) (by omega) (by omega)
        omega
      · rw [if_neg q] at hlt; omega
def clsV (h G : Nat) (dl : Nat → Nat) (N : Nat) : Nat := mnf 1000 (fun x => tht h G dl N (G + 2 ^ h) x + dl (7 * x + h)) 7
def modV (h G : Nat) (D : Nat → Nat) (N : Nat) : Nat := mnf (if G = 0 then 0 else 1000000) (fun x => if bt G x = true then thc h D N G x + D (7 * x + h) else 1000000) 7
theorem fin_eq (hN : N = 128) (hh : h < 7) (hG : G < 128) (hGh : bt G h = false) (hD : ∀ i, D i ≤ 1000000) (hdl : ∀ i, dl i = min (D i) 1000) (hd : D (7 * h + h) = 0) (h54 : ∀ i, i < 49 → D i < 1000000 → D i ≤ 54) : clsV h G dl N = min (modV h G D N) 1000 ∧ (modV h G D N < 1000000 → modV h G D N ≤ 999) := by
  have hdh := hdl (7 * h + h)
  by_cases q : G = 0
  · subst q
    have m0 : modV h 0 D N = 0 := Nat.le_zero.mp (Nat.le_trans (mnf_a 7) (by rw [if_pos rfl]; exact Nat.le_refl 0))
    have c0 : clsV h 0 dl N = 0 := by
      have := mnf_f (a := 1000) (f := fun x => tht h 0 dl N (0 + 2 ^ h) x + dl (7 * x + h)) 7 hh
      have e : tht h 0 dl N (0 + 2 ^ h) h = 0 := by rw [Nat.zero_add]; exact tht_home hN hh
      unfold clsV
      omega
    rw [m0, c0]
    omega
  constructor
  · have cap := mnf_cap (a := 1000) (b := 1000000) (f := fun x => tht h G dl N (G + 2 ^ h) x + dl (7 * x + h)) (g := fun x => if bt G x = true then thc h D N G x + D (7 * x + h) else 1000000) (by omega) 7 (fun x hx => by
      have hx1 := hdl (7 * x + h)
      by_cases z : bt G x = true
      · rw [if_pos z, link hN hh hGh hD hdl (G + 1) G (by omega) hG q (fun l _ hb => hb) x hx z]
        omega
      · have z' : bt G x = false := by cases w : bt G x; rfl; exact absurd w z
        have := tht_far (dl := dl) hN hh hGh (S := G) (x := x) hG hGh hx z' (Or.inl q)
        rw [if_neg z, this]
        omega)
    have le := mnf_a (a := 1000) (f := fun x => tht h G dl N (G + 2 ^ h) x + dl (7 * x + h)) 7
    unfold clsV modV
    rw [if_neg q]
    omega
  · intro hlt
    unfold modV at hlt ⊢
    rw [if_neg q] at hlt ⊢
    rcases mnf_at (a := 1000000) (f := fun x => if bt G x = true then thc h D N G x + D (7 * x + h) else 1000000) 7 with z | ⟨x, hx, z⟩
    · rw [z] at hlt; omega
    · rw [z] at hlt ⊢
      by_cases w : bt G x = true
      · rw [if_pos w] at hlt ⊢
        have a1 := thc_54 hN hh h54 (G + 1) G (by omega) hG x hx w (by omega)
        have a2 := h54 (7 * x + h) (by omega) (by omega)
        have a3 := pc7_le G
        omega
      · rw [if_neg w] at hlt; omega
end TO
