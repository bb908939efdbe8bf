/-! THE PICTURE. The cells that the system owns stand in a row, by PLACES (0, 1, ..) instead of addresses; 'sh' says what each is (an array: kind 0 int, 1 boolean, and length; an object: its class's place in vwCl, and its fields: a fixed value, or none: a number); one function holds all numbers: μ place index. -/
abbrev pm_M : Type := Nat → Nat → Int32
abbrev pm_E : Type := (Nat × Nat) ⊕ (Nat × List (Option Value))
abbrev pm_S : Type := List pm_E
def pm_v (ad : Nat → Nat) : Value → Value
  | .ref i => .ref (ad i)
  | v => v
def pm_f (ad : Nat → Nat) (f : Nat → Int32) : Nat → List (Option Value) → List Value
  | _, [] => []
  | k, some v :: xs => pm_v ad v :: pm_f ad f (k + 1) xs
  | k, none :: xs => .int (f k) :: pm_f ad f (k + 1) xs
def pm_c (ad : Nat → Nat) (cA : Nat → ClassId) (f : Nat → Int32) : pm_E → va_E
  | .inl (t, n) => .inl (cA t, n, .inl f)
  | .inr (ci, fs) => .inr (ci, pm_f ad f 0 fs)
def pm_w (ad : Nat → Nat) (cA : Nat → ClassId) (μ : pm_M) : Nat → pm_S → va_W
  | _, [] => []
  | j, x :: xs => (ad j, pm_c ad cA (μ j) x) :: pm_w ad cA μ (j + 1) xs
def pm_row (μ : pm_M) (j : Nat) (g : Nat → Int32) : pm_M := fun a => if a = j then g else μ a
def pm_up (μ : pm_M) (j i : Nat) (v : Int32) : pm_M := pm_row μ j (upd (μ j) i v)
theorem pm_cat (ad : Nat → Nat) (v : Value) : (pm_v ad v).category = v.category := by cases v <;> rfl
theorem pm_f_some {ad : Nat → Nat} {f : Nat → Int32} : ∀ (fs : List (Option Value)) (k0 k : Nat) {v : Value}, fs[k]? = some (some v) → (pm_f ad f k0 fs)[k]? = some (pm_v ad v)
  | [], _, _, _, h => by simp at h
  | x :: xs, k0, 0, v, h => by
    rw [List.getElem?_cons_zero] at h
    cases h
    rfl
  | x :: xs, k0, k + 1, v, h => by
    rw [List.getElem?_cons_succ] at h
    have e := pm_f_some (ad := ad) (f := f) xs (k0 + 1) k h
    cases x <;> exact e
theorem pm_f_none {ad : Nat → Nat} {f : Nat → Int32} : ∀ (fs : List (Option Value)) (k0 k : Nat), fs[k]? = some none → (pm_f ad f k0 fs)[k]? = some (.int (f (k0 + k)))
  | [], _, _, h => by simp at h
  | x :: xs, k0, 0, h => by
    rw [List.getElem?_cons_zero] at h
    cases h
    rfl
  | x :: xs, k0, k + 1, h => by
    rw [List.getElem?_cons_succ] at h
    have e := pm_f_none (ad := ad) (f := f) xs (k0 + 1) k h
    rw [show k0 + (k + 1) = k0 + 1 + k by omega]
    cases x <;> exact e
theorem pm_f_len {ad : Nat → Nat} {f : Nat → Int32} : ∀ (fs : List (Option Value)) (k0 : Nat), (pm_f ad f k0 fs).length = fs.length
  | [], _ => rfl
  | some _ :: xs, k0 => by show (pm_f ad f (k0 + 1) xs).length + 1 = _; rw [pm_f_len xs]; rfl
  | none :: xs, k0 => by show (pm_f ad f (k0 + 1) xs).length + 1 = _; rw [pm_f_len xs]; rfl
theorem pm_f_congr {ad : Nat → Nat} {f g : Nat → Int32} : ∀ (fs : List (Option Value)) (k0 : Nat), (∀ a, k0 ≤ a → f a = g a) → pm_f ad f k0 fs = pm_f ad g k0 fs
  | [], _, _ => rfl
  | some v :: xs, k0, h => by
    show _ :: pm_f ad f (k0 + 1) xs = _ :: pm_f ad g (k0 + 1) xs
    rw [pm_f_congr xs (k0 + 1) (fun a ha => h a (by omega))]
  | none :: xs, k0, h => by
    show .int (f k0) :: pm_f ad f (k0 + 1) xs = .int (g k0) :: pm_f ad g (k0 + 1) xs
    rw [pm_f_congr xs (k0 + 1) (fun a ha => h a (by omega)), h k0 (Nat.le_refl _)]
theorem pm_f_int {ad : Nat → Nat} {v : Int32} : ∀ (fs : List (Option Value)) (f : Nat → Int32) (k0 k : Nat), fs[k]? = some none → (pm_f ad f k0 fs).set k (.int v) = pm_f ad (upd f (k0 + k) v) k0 fs
  | [], _, _, _, h => by simp at h
  | x :: xs, f, k0, 0, h => by
    rw [List.getElem?_cons_zero] at h
    cases h
    show .int v :: pm_f ad f (k0 + 1) xs = .int (upd f (k0 + 0) v k0) :: pm_f ad (upd f (k0 + 0) v) (k0 + 1) xs
    rw [Nat.add_zero, pm_f_congr (f := f) (g := upd f k0 v) xs (k0 + 1) (fun a ha => by unfold upd; rw [if_neg (by omega)])]
    simp [upd]
  | x :: xs, f, k0, k + 1, h => by
    rw [List.getElem?_cons_succ] at h
    have e := pm_f_int (ad := ad) (v := v) xs f (k0 + 1) k h
    rw [show k0 + 1 + k = k0 + (k + 1) by omega] at e
    cases x with
    | none =>
      show .int (f k0) :: (pm_f ad f (k0 + 1) xs).set k (.int v) = .int (upd f (k0 + (k + 1)) v k0) :: pm_f ad (upd f (k0 + (k + 1)) v) (k0 + 1) xs
      rw [e]
      congr 2
      unfold upd
      rw [if_neg (by omega)]
    | some z =>
      show pm_v ad z :: (pm_f ad f (k0 + 1) xs).set k (.int v) = pm_v ad z :: pm_f ad (upd f (k0 + (k + 1)) v) (k0 + 1) xs
      rw [e]
theorem pm_f_ref {ad : Nat → Nat} {f : Nat → Int32} {v : Value} : ∀ (fs : List (Option Value)) (k0 k : Nat), (pm_f ad f k0 fs).set k (pm_v ad v) = pm_f ad f k0 (fs.set k (some v))
  | [], _, _ => rfl
  | none :: xs, k0, 0 => rfl
  | some _ :: xs, k0, 0 => rfl
  | none :: xs, k0, k + 1 => by
    show .int (f k0) :: (pm_f ad f (k0 + 1) xs).set k (pm_v ad v) = .int (f k0) :: pm_f ad f (k0 + 1) (xs.set k (some v))
    rw [pm_f_ref xs (k0 + 1) k]
  | some z :: xs, k0, k + 1 => by
    show pm_v ad z :: (pm_f ad f (k0 + 1) xs).set k (pm_v ad v) = pm_v ad z :: pm_f ad f (k0 + 1) (xs.set k (some v))
    rw [pm_f_ref xs (k0 + 1) k]
theorem pm_w_get {ad : Nat → Nat} {cA : Nat → ClassId} {μ : pm_M} : ∀ (sh : pm_S) (j0 j : Nat) {x : pm_E}, sh[j]? = some x → (pm_w ad cA μ j0 sh)[j]? = some (ad (j0 + j), pm_c ad cA (μ (j0 + j)) x)
  | [], _, _, _, h => by simp at h
  | y :: ys, j0, 0, x, h => by
    rw [List.getElem?_cons_zero] at h
    cases h
    rfl
  | y :: ys, j0, j + 1, x, h => by
    rw [List.getElem?_cons_succ] at h
    rw [show j0 + (j + 1) = j0 + 1 + j by omega]
    exact pm_w_get ys (j0 + 1) j h
theorem pm_w_get0 {ad : Nat → Nat} {cA : Nat → ClassId} {μ : pm_M} {sh : pm_S} {j : Nat} {x : pm_E} (h : sh[j]? = some x) : (pm_w ad cA μ 0 sh)[j]? = some (ad j, pm_c ad cA (μ j) x) := by
  have e := pm_w_get (ad := ad) (cA := cA) (μ := μ) sh 0 j h
  rw [Nat.zero_add] at e
  exact e
theorem pm_w_congr {ad : Nat → Nat} {cA : Nat → ClassId} {μ ν : pm_M} : ∀ (sh : pm_S) (j0 : Nat), (∀ a, j0 ≤ a → μ a = ν a) → pm_w ad cA μ j0 sh = pm_w ad cA ν j0 sh
  | [], _, _ => rfl
  | y :: ys, j0, h => by
    show (ad j0, pm_c ad cA (μ j0) y) :: pm_w ad cA μ (j0 + 1) ys = (ad j0, pm_c ad cA (ν j0) y) :: pm_w ad cA ν (j0 + 1) ys
    rw [h j0 (Nat.le_refl _), pm_w_congr ys (j0 + 1) (fun a ha => h a (by omega))]
theorem pm_w_set {ad : Nat → Nat} {cA : Nat → ClassId} {g : Nat → Int32} {x : pm_E} : ∀ (sh : pm_S) (μ : pm_M) (j0 j : Nat), (pm_w ad cA μ j0 sh).set j (ad (j0 + j), pm_c ad cA g x) = pm_w ad cA (pm_row μ (j0 + j) g) j0 (sh.set j x)
  | [], _, _, _ => rfl
  | y :: ys, μ, j0, 0 => by
    show (ad (j0 + 0), pm_c ad cA g x) :: pm_w ad cA μ (j0 + 1) ys = (ad j0, pm_c ad cA (pm_row μ (j0 + 0) g j0) x) :: pm_w ad cA (pm_row μ (j0 + 0) g) (j0 + 1) ys
    rw [Nat.add_zero, pm_w_congr (μ := μ) (ν := pm_row μ j0 g) ys (j0 + 1) (fun a ha => by unfold pm_row; rw [if_neg (by omega)])]
    simp [pm_row]
  | y :: ys, μ, j0, j + 1 => by
    have e := pm_w_set (ad := ad) (cA := cA) (g := g) (x := x) ys μ (j0 + 1) j
    rw [show j0 + 1 + j = j0 + (j + 1) by omega] at e
    show (ad j0, pm_c ad cA (μ j0) y) :: (pm_w ad cA μ (j0 + 1) ys).set j (ad (j0 + (j + 1)), pm_c ad cA g x) = (ad j0, pm_c ad cA (pm_row μ (j0 + (j + 1)) g j0) y) :: pm_w ad cA (pm_row μ (j0 + (j + 1)) g) (j0 + 1) (ys.set j x)
    rw [e]
    congr 3
    unfold pm_row
    rw [if_neg (by omega)]
theorem pm_w_set0 {ad : Nat → Nat} {cA : Nat → ClassId} {g : Nat → Int32} {x : pm_E} {sh : pm_S} {μ : pm_M} {j : Nat} (h : sh[j]? = some x) : (pm_w ad cA μ 0 sh).set j (ad j, pm_c ad cA g x) = pm_w ad cA (pm_row μ j g) 0 sh := by
  have e := pm_w_set (ad := ad) (cA := cA) (g := g) (x := x) sh μ 0 j
  rw [Nat.zero_add] at e
  rw [e]
  congr 1
  apply List.ext_getElem?
  intro i
  by_cases hi : i = j
  · subst hi
    rw [List.getElem?_set_self (List.getElem?_eq_some_iff.mp h).1, h]
  · rw [List.getElem?_set_ne (fun z => hi z.symm)]
theorem pm_w_app {ad : Nat → Nat} {cA : Nat → ClassId} {μ : pm_M} {x : pm_E} : ∀ (sh : pm_S) (j0 : Nat), pm_w ad cA μ j0 (sh ++ [x]) = pm_w ad cA μ j0 sh ++ [(ad (j0 + sh.length), pm_c ad cA (μ (j0 + sh.length)) x)]
  | [], j0 => rfl
  | y :: ys, j0 => by
    show (ad j0, pm_c ad cA (μ j0) y) :: pm_w ad cA μ (j0 + 1) (ys ++ [x]) = (ad j0, pm_c ad cA (μ j0) y) :: (pm_w ad cA μ (j0 + 1) ys ++ [(ad (j0 + (ys.length + 1)), pm_c ad cA (μ (j0 + (ys.length + 1))) x)])
    rw [pm_w_app ys (j0 + 1), show j0 + 1 + ys.length = j0 + (ys.length + 1) by omega]
/-- the world hangs on finitely many addresses -/
theorem pm_f_ad : ∀ (fs : List (Option Value)), ∃ n : Nat, ∀ (ad ad' : Nat → Nat) (f : Nat → Int32) (k0 : Nat), (∀ i, i < n → ad' i = ad i) → pm_f ad' f k0 fs = pm_f ad f k0 fs
  | [] => ⟨0, fun _ _ _ _ _ => rfl⟩
  | none :: xs => by
    obtain ⟨n, hn⟩ := pm_f_ad xs
    exact ⟨n, fun ad ad' f k0 h => by show .int (f k0) :: pm_f ad' f (k0 + 1) xs = .int (f k0) :: pm_f ad f (k0 + 1) xs; rw [hn ad ad' f (k0 + 1) h]⟩
  | some v :: xs => by
    obtain ⟨n, hn⟩ := pm_f_ad xs
    have hv : ∃ m : Nat, ∀ ad ad' : Nat → Nat, (∀ i, i < m → ad' i = ad i) → pm_v ad' v = pm_v ad v := by
      cases v with
      | ref i => exact ⟨i + 1, fun ad ad' h => by show Value.ref (ad' i) = Value.ref (ad i); rw [h i (by omega)]⟩
      | _ => exact ⟨0, fun _ _ _ => rfl⟩
    obtain ⟨m, hm⟩ := hv
    exact ⟨n + m, fun ad ad' f k0 h => by show pm_v ad' v :: pm_f ad' f (k0 + 1) xs = pm_v ad v :: pm_f ad f (k0 + 1) xs; rw [hn ad ad' f (k0 + 1) (fun i hi => h i (by omega)), hm ad ad' (fun i hi => h i (by omega))]⟩
theorem pm_w_ad : ∀ (sh : pm_S) (j0 : Nat), ∃ n : Nat, ∀ (ad ad' : Nat → Nat) (cA : Nat → ClassId) (μ : pm_M), (∀ i, i < n → ad' i = ad i) → pm_w ad' cA μ j0 sh = pm_w ad cA μ j0 sh
  | [], _ => ⟨0, fun _ _ _ _ _ => rfl⟩
  | y :: ys, j0 => by
    obtain ⟨n, hn⟩ := pm_w_ad ys (j0 + 1)
    have hy : ∃ m : Nat, ∀ (ad ad' : Nat → Nat) (cA : Nat → ClassId) (f : Nat → Int32), (∀ i, i < m → ad' i = ad i) → pm_c ad' cA f y = pm_c ad cA f y := by
      match y with
      | .inl (t, n) => exact ⟨0, fun _ _ _ _ _ => rfl⟩
      | .inr (ci, fs) =>
        obtain ⟨m, hm⟩ := pm_f_ad fs
        exact ⟨m, fun ad ad' cA f h => by show (.inr (ci, pm_f ad' f 0 fs) : va_E) = .inr (ci, pm_f ad f 0 fs); rw [hm ad ad' f 0 h]⟩
    obtain ⟨m, hm⟩ := hy
    refine ⟨n + m + j0 + 1, fun ad ad' cA μ h => ?_⟩
    show (ad' j0, pm_c ad' cA (μ j0) y) :: pm_w ad' cA μ (j0 + 1) ys = (ad j0, pm_c ad cA (μ j0) y) :: pm_w ad cA μ (j0 + 1) ys
    rw [hn ad ad' cA μ (fun i hi => h i (by omega)), hm ad ad' cA (μ j0) (fun i hi => h i (by omega)), h j0 (by omega)]
/-- locals: by their slots -/
def pm_l (ad : Nat → Nat) : Nat → List (Option Value) → List (Nat × Value)
  | _, [] => []
  | i, some v :: xs => (i, pm_v ad v) :: pm_l ad (i + 1) xs
  | i, none :: xs => pm_l ad (i + 1) xs
theorem pm_l_mem {ad : Nat → Nat} : ∀ (ls : List (Option Value)) (i0 : Nat) (q : Nat × Value), q ∈ pm_l ad i0 ls ↔ ∃ (i : Nat) (v : Value), ls[i]? = some (some v) ∧ q = (i0 + i, pm_v ad v)
  | [], i0, q => by
    constructor
    · intro h; cases h
    · rintro ⟨i, v, h, -⟩; simp at h
  | some w :: xs, i0, q => by
    show q ∈ (i0, pm_v ad w) :: pm_l ad (i0 + 1) xs ↔ _
    rw [List.mem_cons, pm_l_mem xs (i0 + 1) q]
    constructor
    · rintro (h | ⟨i, v, h1, h2⟩)
      · exact ⟨0, w, rfl, h⟩
      · exact ⟨i + 1, v, h1, by rw [h2]; congr 1; omega⟩
    · rintro ⟨i, v, h1, h2⟩
      cases i with
      | zero =>
        rw [List.getElem?_cons_zero] at h1
        cases h1
        exact Or.inl h2
      | succ i =>
        rw [List.getElem?_cons_succ] at h1
        exact Or.inr ⟨i, v, h1, by rw [h2]; congr 1; omega⟩
  | none :: xs, i0, q => by
    show q ∈ pm_l ad (i0 + 1) xs ↔ _
    rw [pm_l_mem xs (i0 + 1) q]
    constructor
    · rintro ⟨i, v, h1, h2⟩
      exact ⟨i + 1, v, h1, by rw [h2]; congr 1; omega⟩
    · rintro ⟨i, v, h1, h2⟩
      cases i with
      | zero => rw [List.getElem?_cons_zero] at h1; cases h1
      | succ i =>
        rw [List.getElem?_cons_succ] at h1
        exact ⟨i, v, h1, by rw [h2]; congr 1; omega⟩
theorem pm_l_at {ad : Nat → Nat} {la : Array Slot} {nL i : Nat} {ls : List (Option Value)} {v : Value} (h : lv_has la nL (pm_l ad 0 ls)) (hi : ls[i]? = some (some v)) : la[i]? = some (.val (pm_v ad v)) :=
  h.2.2 (i, pm_v ad v) ((pm_l_mem ls 0 _).mpr ⟨i, v, hi, by rw [Nat.zero_add]⟩)
theorem pm_l_weak {ad : Nat → Nat} {la : Array Slot} {nL : Nat} {ls ls' : List (Option Value)} (h : lv_has la nL (pm_l ad 0 ls)) (hw : ∀ (i : Nat) (v : Value), ls'[i]? = some (some v) → ls[i]? = some (some v)) : lv_has la nL (pm_l ad 0 ls') := by
  refine ⟨h.1, h.2.1, fun q hq => ?_⟩
  obtain ⟨i, v, h1, h2⟩ := (pm_l_mem ls' 0 q).mp hq
  rw [h2, Nat.zero_add]
  exact pm_l_at h (hw i v h1)
/-- storing into a local of one word: all that is no long just below stays -/
def pm_st1 (ls : List (Option Value)) (i : Nat) (v : Value) : List (Option Value) :=
  (match i with
    | 0 => ls
    | k + 1 => match ls[k]? with
      | some (some w) => if w.category = 2 then ls.set k none else ls
      | _ => ls).set i (some v)
theorem pm_st1_mem {ad : Nat → Nat} {ls : List (Option Value)} {i : Nat} {v : Value} {q : Nat × Value} (h : q ∈ pm_l ad 0 (pm_st1 ls i v)) : q ∈ (i, pm_v ad v) :: (pm_l ad 0 ls).filter (fun q => !(q.1 == i) && !(q.1 + 1 == i && q.2.category == 2)) := by
  obtain ⟨j, w, h1, h2⟩ := (pm_l_mem _ 0 q).mp h
  rw [Nat.zero_add] at h2
  subst h2
  have key : j ≠ i → (ls[j]? = some (some w) ∧ ¬ (j + 1 = i ∧ w.category = 2)) := by
    intro hj
    unfold pm_st1 at h1
    rw [List.getElem?_set_ne (fun z => hj z.symm)] at h1
    cases i with
    | zero => exact ⟨h1, fun z => by omega⟩
    | succ k =>
      dsimp only at h1
      split at h1
      · rename_i u hu
        by_cases hc : u.category = 2
        · rw [if_pos hc] at h1
          by_cases hjk : j = k
          · subst hjk
            rw [List.getElem?_set_self (List.getElem?_eq_some_iff.mp hu).1] at h1
            cases h1
          · rw [List.getElem?_set_ne (fun z => hjk z.symm)] at h1
            exact ⟨h1, fun z => hjk (by omega)⟩
        · rw [if_neg hc] at h1
          refine ⟨h1, fun z => ?_⟩
          have : j = k := by omega
          subst this
          rw [h1] at hu
          cases hu
          exact hc z.2
      · rename_i hu
        refine ⟨h1, fun z => ?_⟩
        have : j = k := by omega
        subst this
        exact hu w h1
  by_cases hj : j = i
  · subst hj
    unfold pm_st1 at h1
    have hl := (List.getElem?_eq_some_iff.mp h1).1
    rw [List.getElem?_set_self (by rw [List.length_set] at hl; exact hl)] at h1
    cases h1
    exact List.mem_cons_self
  · obtain ⟨a, b⟩ := key hj
    refine List.mem_cons_of_mem _ (List.mem_filter.mpr ⟨(pm_l_mem ls 0 _).mpr ⟨j, w, a, by rw [Nat.zero_add]⟩, ?_⟩)
    simp only [Bool.and_eq_true, Bool.not_eq_true', beq_eq_false_iff_ne, Bool.and_eq_false_iff]
    refine ⟨hj, ?_⟩
    rw [pm_cat]
    by_cases hz : j + 1 = i
    · exact Or.inr (fun h => b ⟨hz, h⟩)
    · exact Or.inl hz
def pm_st2 (ls : List (Option Value)) (i : Nat) (v : Value) : List (Option Value) := (pm_st1 ls i v).set (i + 1) none
theorem pm_st2_mem {ad : Nat → Nat} {ls : List (Option Value)} {i : Nat} {v : Value} {q : Nat × Value} (h : q ∈ pm_l ad 0 (pm_st2 ls i v)) : q ∈ (i, pm_v ad v) :: (pm_l ad 0 ls).filter (fun q => !(q.1 == i) && (!(q.1 == i + 1) && !(q.1 + 1 == i && q.2.category == 2))) := by
  obtain ⟨j, w, h1, h2⟩ := (pm_l_mem _ 0 q).mp h
  unfold pm_st2 at h1
  have hj : j ≠ i + 1 := by
    intro hj
    subst hj
    have hl := (List.getElem?_eq_some_iff.mp h1).1
    rw [List.getElem?_set_self (by rw [List.length_set] at hl; exact hl)] at h1
    cases h1
  rw [List.getElem?_set_ne (fun z => hj z.symm)] at h1
  have h3 := pm_st1_mem ((pm_l_mem (ad := ad) (pm_st1 ls i v) 0 q).mpr ⟨j, w, h1, h2⟩)
  rcases List.mem_cons.mp h3 with h4 | h4
  · exact List.mem_cons.mpr (Or.inl h4)
  · refine List.mem_cons_of_mem _ ?_
    obtain ⟨h5, h6⟩ := List.mem_filter.mp h4
    refine List.mem_filter.mpr ⟨h5, ?_⟩
    rw [Nat.zero_add] at h2
    subst h2
    simp only [Bool.and_eq_true, Bool.not_eq_true', beq_eq_false_iff_ne, Bool.and_eq_false_iff] at h6 ⊢
    exact ⟨h6.1, hj, h6.2⟩
