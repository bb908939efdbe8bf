/-! what constructors need: cells that come -/
/-- the places named lie below n -/
def pm_vb (n : Nat) : Value → Bool
  | .ref i => Nat.blt i n
  | _ => true
def pm_ob (n : Nat) : Option Value → Bool
  | some v => pm_vb n v
  | none => true
def pm_eb (n : Nat) : pm_E → Bool
  | .inl _ => true
  | .inr (_, fs) => fs.all (pm_ob n)
theorem pm_vb_eq {n : Nat} {ad ad' : Nat → Nat} (h : ∀ i, i < n → ad' i = ad i) {v : Value} (hv : pm_vb n v = true) : pm_v ad' v = pm_v ad v := by
  cases v with
  | ref i => show Value.ref (ad' i) = Value.ref (ad i); rw [h i (Nat.blt_eq.mp hv)]
  | _ => rfl
theorem pm_fb_eq {n : Nat} {ad ad' : Nat → Nat} (h : ∀ i, i < n → ad' i = ad i) {f : Nat → Int32} : ∀ (fs : List (Option Value)) (k : Nat), fs.all (pm_ob n) = true → pm_f ad' f k fs = pm_f ad f k fs
  | [], _, _ => rfl
  | none :: xs, k, hb => by
    rw [List.all_cons, Bool.and_eq_true] at hb
    show .int (f k) :: pm_f ad' f (k + 1) xs = .int (f k) :: pm_f ad f (k + 1) xs
    rw [pm_fb_eq h xs (k + 1) hb.2]
  | some v :: xs, k, hb => by
    rw [List.all_cons, Bool.and_eq_true] at hb
    show pm_v ad' v :: pm_f ad' f (k + 1) xs = pm_v ad v :: pm_f ad f (k + 1) xs
    rw [pm_fb_eq h xs (k + 1) hb.2, pm_vb_eq h hb.1]
theorem pm_cb_eq {n : Nat} {ad ad' : Nat → Nat} (h : ∀ i, i < n → ad' i = ad i) {cA : Nat → ClassId} {f : Nat → Int32} {x : pm_E} (hx : pm_eb n x = true) : pm_c ad' cA f x = pm_c ad cA f x := by
  match x, hx with
  | .inl (t, k), _ => rfl
  | .inr (ci, fs), hx => show (.inr (ci, pm_f ad' f 0 fs) : va_E) = .inr (ci, pm_f ad f 0 fs); rw [pm_fb_eq h fs 0 hx]
theorem pm_wb_eq {n : Nat} {ad ad' : Nat → Nat} (h : ∀ i, i < n → ad' i = ad i) {cA : Nat → ClassId} {μ : pm_M} : ∀ (sh : pm_S) (j : Nat), j + sh.length ≤ n → sh.all (pm_eb n) = true → pm_w ad' cA μ j sh = pm_w ad cA μ j sh
  | [], _, _, _ => rfl
  | x :: xs, j, hl, hb => by
    rw [List.all_cons, Bool.and_eq_true] at hb
    rw [List.length_cons] at hl
    show (ad' j, pm_c ad' cA (μ j) x) :: pm_w ad' cA μ (j + 1) xs = (ad j, pm_c ad cA (μ j) x) :: pm_w ad cA μ (j + 1) xs
    rw [pm_wb_eq h xs (j + 1) (by omega) hb.2, pm_cb_eq h hb.1, h j (by omega)]
theorem pm_lb_eq {n : Nat} {ad ad' : Nat → Nat} (h : ∀ i, i < n → ad' i = ad i) : ∀ (ls : List (Option Value)) (i : Nat), ls.all (pm_ob n) = true → pm_l ad' i ls = pm_l ad i ls
  | [], _, _ => rfl
  | none :: xs, i, hb => by
    rw [List.all_cons, Bool.and_eq_true] at hb
    exact pm_lb_eq h xs (i + 1) hb.2
  | some v :: xs, i, hb => by
    rw [List.all_cons, Bool.and_eq_true] at hb
    show (i, pm_v ad' v) :: pm_l ad' (i + 1) xs = (i, pm_v ad v) :: pm_l ad (i + 1) xs
    rw [pm_lb_eq h xs (i + 1) hb.2, pm_vb_eq h hb.1]
theorem pm_sb_eq {n : Nat} {ad ad' : Nat → Nat} (h : ∀ i, i < n → ad' i = ad i) : ∀ (st : List Value), st.all (pm_vb n) = true → st.map (pm_v ad') = st.map (pm_v ad)
  | [], _ => rfl
  | v :: xs, hb => by
    rw [List.all_cons, Bool.and_eq_true] at hb
    rw [List.map_cons, List.map_cons, pm_sb_eq h xs hb.2, pm_vb_eq h hb.1]
/-- a state of cells whose places all lie below their number -/
def pm_ok (sh : pm_S) (ls : List (Option Value)) (st : List Value) : Bool := sh.all (pm_eb sh.length) && (ls.all (pm_ob sh.length) && st.all (pm_vb sh.length))
theorem pm_row_self (μ : pm_M) (j : Nat) : pm_row μ j (μ j) = μ := by
  funext a
  unfold pm_row
  by_cases h : a = j
  · rw [if_pos h, h]
  · rw [if_neg h]
section PMN
variable {τ : Type} {l : Launch} {cc : ByteArray} {own : String} {nL : Nat} {ret : Option FieldType} {R : Room} {g : Bool} {shE : pm_S} {mc ms : Nat} {fin : τ → Option Value × pm_M} {sh : pm_S} {kc ks pc : Nat} {ls : List (Option Value)} {st : List Value} {μ : pm_M} {o o1 o2 : Option τ} {idx : Nat}
theorem pv_oinit {j : Nat} (hd : decode cc pc = .ok (.invokespecial idx, 3)) (hL : Cond.methodLink own idx objectInit ∈ pm_T ∧ Cond.instanceMethod objectInit ∈ pm_T ∧ Cond.code objectInit ⟨#[0xb1]⟩ 1 none ∈ pm_T) (hf : 1 ≤ R.frames) (hlo : (st.map fun v => v.category).sum + 12 ≤ R.locals) (k : pm_V l cc own nL ret R g shE mc ms fin sh kc ks (pc + 3) ls st μ o) : pm_V l cc own nL ret R g shE mc ms fin sh kc ks pc ls (.ref j :: st) μ o := by
  intro z hz p e s m args below meth c D cA ad ad0 n0 A H locs la h1 h2 h3 h4 h5 h6 h7 h8
  have hts := h1.2.2.2.2.2.2.1
  have hcat : (st.map (pm_v ad)).map (fun v => v.category) = st.map (fun v => v.category) := by
    rw [List.map_map]; exact List.map_congr_left (fun v _ => pm_cat ad v)
  refine W.objInit h1.1 h1.2.1 h1.2.2.2.1 (hts _ hL.1) (hts _ hL.2.1) (hts _ hL.2.2) rfl (by rw [h1.2.2.1]; exact h8.1) rfl hd hf (by rw [hcat]; show 2 * 0 + _ + 12 ≤ _; omega) ?_
  exact k z hz p e s m args below meth c D cA ad ad0 n0 A H locs la h1 h2 h3 h4 h5 h6 h7 h8
/-- one cell more: the addresses, the picture -/
theorem pm_grow {ad : Nat → Nat} {cA : Nat → ClassId} {q : Nat} {x : pm_E} (hok : pm_ok sh ls st = true) (hx : pm_eb sh.length x = true) :
    (∀ i, i < sh.length → (fun i => if i = sh.length then q else ad i) i = ad i) ∧ pm_w ad cA μ 0 sh ++ [(q, pm_c ad cA (fun _ => 0) x)] = pm_w (fun i => if i = sh.length then q else ad i) cA (pm_row μ sh.length (fun _ => 0)) 0 (sh ++ [x]) ∧ pm_l (fun i => if i = sh.length then q else ad i) 0 ls = pm_l ad 0 ls ∧ st.map (pm_v (fun i => if i = sh.length then q else ad i)) = st.map (pm_v ad) := by
  have ha : ∀ i, i < sh.length → (fun i => if i = sh.length then q else ad i) i = ad i := fun i hi => if_neg (Nat.ne_of_lt hi)
  unfold pm_ok at hok
  rw [Bool.and_eq_true, Bool.and_eq_true] at hok
  refine ⟨ha, ?_, pm_lb_eq ha ls 0 hok.2.1, pm_sb_eq ha st hok.2.2⟩
  rw [pm_w_app, Nat.zero_add]
  have e0 : pm_row μ sh.length (fun _ => 0) sh.length = fun _ => 0 := by unfold pm_row; rw [if_pos rfl]
  rw [e0, pm_cb_eq ha hx, pm_wb_eq ha sh 0 (by omega) hok.1]
  have e1 : pm_w ad cA (pm_row μ sh.length (fun _ => 0)) 0 sh = pm_w ad cA μ 0 sh := by
    have key : ∀ (s2 : pm_S) (j : Nat), j + s2.length ≤ sh.length → pm_w ad cA (pm_row μ sh.length (fun _ => 0)) j s2 = pm_w ad cA μ j s2 := by
      intro s2
      induction s2 with
      | nil => intro j _; rfl
      | cons y ys ih =>
        intro j hj
        rw [List.length_cons] at hj
        show (ad j, pm_c ad cA (pm_row μ sh.length (fun _ => 0) j) y) :: pm_w ad cA _ (j + 1) ys = (ad j, pm_c ad cA (μ j) y) :: pm_w ad cA μ (j + 1) ys
        rw [ih (j + 1) (by omega)]
        unfold pm_row
        rw [if_neg (by omega)]
    exact key sh 0 (by omega)
  rw [e1]
  congr 3
  exact (if_pos rfl).symm
theorem pv_new {sh' : pm_S} {C : String} {T : u_T} {N ci j : Nat} {fs : List (Option Value)} (ty : Nat → FieldType) (hd : decode cc pc = .ok (.new idx, 3)) (hin : ∀ w ∈ u_ws C T N, w ∈ pm_T) (hty : ∀ k, k < N → parseFieldDescriptor (T k).2.2.1 = some (ty k)) (hL : Cond.classLink own idx C ∈ pm_T ∧ Cond.instantiable C N ∈ pm_T ∧ Cond.initialized C ∈ pm_T) (hc : vwCl[ci]? = some (C, T, N)) (hfs : ∀ (ad : Nat → Nat) (k : Nat), k < N → defaultValue (ty k) = vp_V (pm_f ad (fun _ => 0) 0 fs) k) (hok : pm_ok sh ls st = true) (hx : pm_eb sh.length (.inr (ci, fs)) = true) (hj : sh.length = j) (hsh : sh ++ [.inr (ci, fs)] = sh') (hk : kc + 1 ≤ R.cells ∧ ks + N ≤ R.slots) (hg : g = true)
    (k : pm_V l cc own nL ret R g shE mc ms fin sh' (kc + 1) (ks + N) (pc + 3) ls (.ref j :: st) (pm_row μ j (fun _ => 0)) o) : pm_V l cc own nL ret R g shE mc ms fin sh kc ks pc ls st μ o := by
  intro z hz p e s m args below meth c D cA ad ad0 n0 A H locs la h1 h2 h3 h4 h5 h6 h7 h8
  have hts := h1.2.2.2.2.2.2.1
  subst hj
  subst hsh
  refine va_new (fs := pm_f ad (fun _ => 0) 0 fs) (C := C) (T := T) (N := N) (ci := ci) h1.1 h1.2.1 hts hin ty hty h1.2.2.2.1 (hts _ hL.1) (hts _ hL.2.1) (hts _ hL.2.2) h1.2.2.2.2.2.2.2 h5 h6 h7 h4 hc (hfs ad) hk.1 hk.2 hd (fun q H1 hP hD hS => ?_)
  obtain ⟨g1, g2, g3, g4⟩ := pm_grow (ad := ad) (cA := cA) (q := q) (μ := μ) hok hx
  have g2' : pm_w ad cA μ 0 sh ++ [(q, .inr (ci, pm_f ad (fun _ => 0) 0 fs))] = _ := g2
  rw [g2'] at hP hD
  have hn := h3 hg
  have hfin := k z hz p e s m args below meth c D cA (fun i => if i = sh.length then q else ad i) ad0 n0 A H1 locs la h1 (fun i hi => (g1 i (Nat.lt_of_lt_of_le hi hn.1)).trans (h2 i hi)) (fun _ => ⟨by rw [List.length_append]; exact Nat.le_trans hn.1 (Nat.le_add_right _ _), hn.2⟩) h4 hP hD hS (by rw [g3]; exact h8)
  rw [List.map_cons, g4] at hfin
  have e2 : pm_v (fun i => if i = sh.length then q else ad i) (.ref sh.length) = .ref q := by show Value.ref (if sh.length = sh.length then q else _) = _; rw [if_pos rfl]
  rw [e2] at hfin
  exact hfin
theorem pv_newi {sh' : pm_S} {j N : Nat} {n : Int32} (hd : decode cc pc = .ok (.newarray .int, 2)) (har : Cond.arrayClass .int ∈ pm_T) (hn : ¬ n < 0) (hN : n.toNatClampNeg = N) (hb : N * componentBytes .int ≤ 536870912) (hok : pm_ok sh ls st = true) (hj : sh.length = j) (hsh : sh ++ [.inl (0, N)] = sh') (hk : kc + 1 ≤ R.cells ∧ ks + N ≤ R.slots) (hg : g = true)
    (k : pm_V l cc own nL ret R g shE mc ms fin sh' (kc + 1) (ks + N) (pc + 2) ls (.ref j :: st) (pm_row μ j (fun _ => 0)) o) : pm_V l cc own nL ret R g shE mc ms fin sh kc ks pc ls (.int n :: st) μ o := by
  intro z hz p e s m args below meth c D cA ad ad0 n0 A H locs la h1 h2 h3 h4 h5 h6 h7 h8
  have hts := h1.2.2.2.2.2.2.1
  subst hj
  subst hsh
  refine va_newa (atype := .int) (ty := .int) (a0 := (N, .inl (fun _ => 0))) h1.1 h1.2.1 (hts _ har) rfl h1.2.2.2.2.2.2.2 h5 h6 h7 h4 (fun cA => rfl) hn hN hb hk.1 hk.2 hd (fun q cA' H1 hK hP hD hS => ?_)
  have hcA : cA' = cA 0 := by
    have a1 := (hK.2 2 (cA', .int) rfl).2
    have a2 := (hK.2 0 (cA 0, .int) rfl).2
    exact Option.some.inj (a1.symm.trans a2)
  subst hcA
  obtain ⟨g1, g2, g3, g4⟩ := pm_grow (ad := ad) (cA := cA) (q := q) (μ := μ) (x := .inl (0, N)) hok rfl
  have g2' : pm_w ad cA μ 0 sh ++ [(q, .inl (cA 0, N, .inl (fun _ => 0)))] = _ := g2
  rw [g2'] at hP hD
  have hnn := h3 hg
  have hfin := k z hz p e s m args below meth c D cA (fun i => if i = sh.length then q else ad i) ad0 n0 A H1 locs la h1 (fun i hi => (g1 i (Nat.lt_of_lt_of_le hi hnn.1)).trans (h2 i hi)) (fun _ => ⟨by rw [List.length_append]; exact Nat.le_trans hnn.1 (Nat.le_add_right _ _), hnn.2⟩) h4 hP hD hS (by rw [g3]; exact h8)
  rw [List.map_cons, g4] at hfin
  have e2 : pm_v (fun i => if i = sh.length then q else ad i) (.ref sh.length) = .ref q := by show Value.ref (if sh.length = sh.length then q else _) = _; rw [if_pos rfl]
  rw [e2] at hfin
  exact hfin
theorem pv_newz {sh' : pm_S} {j N : Nat} {n : Int32} (hd : decode cc pc = .ok (.newarray .boolean, 2)) (har : Cond.arrayClass .boolean ∈ pm_T) (hn : ¬ n < 0) (hN : n.toNatClampNeg = N) (hb : N * componentBytes .boolean ≤ 536870912) (hok : pm_ok sh ls st = true) (hj : sh.length = j) (hsh : sh ++ [.inl (1, N)] = sh') (hk : kc + 1 ≤ R.cells ∧ ks + N ≤ R.slots) (hg : g = true)
    (k : pm_V l cc own nL ret R g shE mc ms fin sh' (kc + 1) (ks + N) (pc + 2) ls (.ref j :: st) (pm_row μ j (fun _ => 0)) o) : pm_V l cc own nL ret R g shE mc ms fin sh kc ks pc ls (.int n :: st) μ o := by
  intro z hz p e s m args below meth c D cA ad ad0 n0 A H locs la h1 h2 h3 h4 h5 h6 h7 h8
  have hts := h1.2.2.2.2.2.2.1
  subst hj
  subst hsh
  refine va_newa (atype := .boolean) (ty := .boolean) (a0 := (N, .inl (fun _ => 0))) h1.1 h1.2.1 (hts _ har) rfl h1.2.2.2.2.2.2.2 h5 h6 h7 h4 (fun cA => rfl) hn hN hb hk.1 hk.2 hd (fun q cA' H1 hK hP hD hS => ?_)
  have hcA : cA' = cA 1 := by
    have a1 := (hK.2 2 (cA', .boolean) rfl).2
    have a2 := (hK.2 1 (cA 1, .boolean) rfl).2
    exact Option.some.inj (a1.symm.trans a2)
  subst hcA
  obtain ⟨g1, g2, g3, g4⟩ := pm_grow (ad := ad) (cA := cA) (q := q) (μ := μ) (x := .inl (1, N)) hok rfl
  have g2' : pm_w ad cA μ 0 sh ++ [(q, .inl (cA 1, N, .inl (fun _ => 0)))] = _ := g2
  rw [g2'] at hP hD
  have hnn := h3 hg
  have hfin := k z hz p e s m args below meth c D cA (fun i => if i = sh.length then q else ad i) ad0 n0 A H1 locs la h1 (fun i hi => (g1 i (Nat.lt_of_lt_of_le hi hnn.1)).trans (h2 i hi)) (fun _ => ⟨by rw [List.length_append]; exact Nat.le_trans hnn.1 (Nat.le_add_right _ _), hnn.2⟩) h4 hP hD hS (by rw [g3]; exact h8)
  rw [List.map_cons, g4] at hfin
  have e2 : pm_v (fun i => if i = sh.length then q else ad i) (.ref sh.length) = .ref q := by show Value.ref (if sh.length = sh.length then q else _) = _; rw [if_pos rfl]
  rw [e2] at hfin
  exact hfin
theorem pv_putr {sh' : pm_S} {ci k0 j r : Nat} {fs : List (Option Value)} {ty : FieldType} (hd : decode cc pc = .ok (.putfield idx, 3)) (hF : pm_FP own idx ci k0 true ty) (hs : sh[j]? = some (.inr (ci, fs))) (hf : k0 < fs.length) (hn : ∀ q : Nat, narrow ty (.ref q) = .ref q) (hfit : ∀ q : Nat, fits ty (.ref q) = true) (hsh : sh.set j (.inr (ci, fs.set k0 (some (.ref r)))) = sh') (hg : g = true) (k : pm_V l cc own nL ret R g shE mc ms fin sh' kc ks (pc + 3) ls st μ o) : pm_V l cc own nL ret R g shE mc ms fin sh kc ks pc ls (.ref r :: .ref j :: st) μ o := by
  intro z hz p e s m args below meth c D cA ad ad0 n0 A H locs la h1 h2 h3 h4 h5 h6 h7 h8
  obtain ⟨C, T, N, ty0, f1, f2, f3, f4, f5, f6, f7, f8, f9⟩ := hF
  subst hsh
  refine va_putF h1.1 h1.2.1 h1.2.2.2.2.2.2.1 f1 ty0 f5 f6 h1.2.2.2.1 h1.2.2.2.2.2.2.2 h5 h6 h7 j (pm_w_get0 hs) f2 k0 f3 (h1.2.2.2.2.2.2.1 _ f4) (fun _ h => h) f7 (h3 hg).2 (f9 rfl) f8 (hn _) (hfit _) (by rw [pm_f_len]; exact hf) hd (fun H1 locs1 hP hD hS => ?_)
  have e1 : (pm_w ad cA μ 0 sh).set j (ad j, .inr (ci, (pm_f ad (μ j) 0 fs).set k0 (pm_v ad (.ref r)))) = pm_w ad cA μ 0 (sh.set j (.inr (ci, fs.set k0 (some (.ref r))))) := by
    rw [pm_f_ref fs 0 k0]
    have e := pm_w_set (ad := ad) (cA := cA) (g := μ j) (x := .inr (ci, fs.set k0 (some (.ref r)))) sh μ 0 j
    rw [Nat.zero_add, pm_row_self] at e
    exact e
  have hP : va_P D vwCl (pm_w ad cA μ 0 (sh.set j (.inr (ci, fs.set k0 (some (.ref r)))))) H1 := by rw [← e1]; exact hP
  have hD : va_D A (pm_w ad cA μ 0 (sh.set j (.inr (ci, fs.set k0 (some (.ref r)))))) := by rw [← e1]; exact hD
  exact k z hz p e s m args below meth c D cA ad ad0 n0 A H1 locs1 la h1 h2 (fun h => ⟨by rw [List.length_set]; exact (h3 h).1, (h3 h).2⟩) h4 hP hD hS h8
theorem pv_ci {sh' : pm_S} {n nL' mc' ms' j : Nat} {y : MethodName} {cc' : ByteArray} {R' : Room} {rest as : List Value} {oc : Option pm_M} {K : pm_M → Option τ} (hd : decode cc pc = .ok (.invokespecial idx, 3)) (hY : pm_Y y cc' nL' none n) (hL : pm_LI own idx y) (hok : pm_Ok l y cc' nL' none R' (.ref j :: as) sh true sh' mc' ms' (fun r => (none, r)) μ oc) (hn : as.length = n) (hr : pm_rm R' nL' R mc' ms') (hk : kc + mc' ≤ R.cells ∧ ks + ms' ≤ R.slots) (hw : (rest.map fun v => v.category).sum ≤ 8) (hst : st = as.reverse ++ .ref j :: rest) (hsz : sh.length ≤ sh'.length) (hok2 : pm_ok sh ls rest = true) (hg : g = true)
    (k : ∀ x, pm_V l cc own nL ret R g shE mc ms fin sh' (kc + mc') (ks + ms') (pc + 3) ls rest x (K x)) : pm_V l cc own nL ret R g shE mc ms fin sh kc ks pc ls st μ (oc.bind K) := by
  intro z hz p e s m args below meth c D cA ad ad0 n0 A H locs la h1 h2 h3 h4 h5 h6 h7 h8
  obtain ⟨x, hx, hz⟩ := Option.bind_eq_some_iff.mp hz
  have hM := hok x hx D cA ad sh.length H.size (fun _ => Nat.le_refl _)
  have hts := h1.2.2.2.2.2.2.1
  have hpre := pm_pre h1.2.2.2.2.2.2.2 h5 h6 ((Value.ref j :: as).map (pm_v ad))
  have hcat : (rest.map (pm_v ad)).map (fun v => v.category) = rest.map (fun v => v.category) := by
    rw [List.map_map]; exact List.map_congr_left (fun v _ => pm_cat ad v)
  have hstk : st.map (pm_v ad) = (as.map (pm_v ad)).reverse ++ Value.ref (ad j) :: rest.map (pm_v ad) := by rw [hst, List.map_append, List.map_reverse]; rfl
  have hrun : va_Run p l e R s m args below meth c H locs kc ks mc' ms' (F0 m pc la (st.map (pm_v ad))) (rest.map (pm_v ad)) (pm_Q D cA ad sh.length sh' none x (va_A (pm_w ad cA μ 0 sh) H.size) (Value.ref (ad j) :: as.map (pm_v ad)).toArray) (va_A (pm_w ad cA μ 0 sh) H.size) :=
    va_runI (n := n) (cc := cc) ⟨h1.1, h1.2.1, h1.2.2.1, h1.2.2.2.1, hts⟩ hM ⟨pm_cb hts hY hL.1 hr, hL.2.2, hts _ hL.2.1⟩ hpre rfl (by rw [List.length_map]; exact hn) h8.1 hstk (by rw [hcat]; show 2 * 0 + _ ≤ 8; omega) hd hk
  refine pm_after hrun h4 h6 h7 (fun ad' H1 locs1 ha hP hD hS => ?_)
  have hnn := h3 hg
  unfold pm_ok at hok2
  rw [Bool.and_eq_true, Bool.and_eq_true] at hok2
  have hfin := k x z hz p e s m args below meth c D cA ad' ad0 n0 A H1 locs1 la h1 (fun i hi => (ha i (Nat.lt_of_lt_of_le hi hnn.1)).trans (h2 i hi)) (fun _ => ⟨Nat.le_trans hnn.1 hsz, hnn.2⟩) h4 hP hD hS (by rw [pm_lb_eq ha ls 0 hok2.2.1]; exact h8)
  rw [pm_sb_eq ha rest hok2.2.2] at hfin
  exact hfin
end PMN
