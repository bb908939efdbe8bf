def lw_U (l : Launch) (b L : Nat) (xs : Nat → Int32) (sh : pm_S) (kc ks : Nat) (pc : Nat) (ls : List (Option Value)) (st : List Value) (μ : pm_M) : Prop :=
  ∀ (p : Program) (e : Env) (s : State) (m : MethodId) (below : List Frame) (meth : Method) (c : Code) (D : va_G) (cA : Nat → ClassId) (ad : Nat → Nat) (H : Heap) (locs : List Loc) (la : Array Slot),
    lw_At p s m meth c b L xs → va_K D vwCl (pm_ty cA) s → ad 1000 = b → va_P D vwCl (pm_w ad cA μ 0 sh) H → va_D (fun q => s.heap.size ≤ q) (pm_w ad cA μ 0 sh) → va_S (fun q => s.heap.size ≤ q) s.heap H locs → lv_has la 4 (pm_l ad 0 ls) →
    W p l e room_1 s m #[Value.ref b] below meth c H locs kc ks (lw_Z below #[Value.ref b] s) (F0 m pc la (st.map (pm_v ad)))
section LWU
variable {l : Launch} {b L : Nat} {xs : Nat → Int32} {pc : Nat} {ls : List (Option Value)} {st : List Value} {μ : pm_M} {idx : Nat} {sh : pm_S} {kc ks : Nat}
theorem lu_iconst {n : Int} {v : Int32} (hd : decode cL_law pc = .ok (.iconst n, 1)) (hv : Int32.ofInt n = v) (k : lw_U l b L xs sh kc ks (pc + 1) ls (.int v :: st) μ) : lw_U l b L xs sh kc ks pc ls st μ := by
  intro p e s m below meth c D cA ad H locs la h1 h2 h3 h4 h5 h6 h7
  exact lv_iconst h1.1 h1.2.1 hd hv (k p e s m below meth c D cA ad H locs la h1 h2 h3 h4 h5 h6 h7)
theorem lu_dup {v : Value} (hd : decode cL_law pc = .ok (.dup, 1)) (hv : v.category = 1) (k : lw_U l b L xs sh kc ks (pc + 1) ls (v :: v :: st) μ) : lw_U l b L xs sh kc ks pc ls (v :: st) μ := by
  intro p e s m below meth c D cA ad H locs la h1 h2 h3 h4 h5 h6 h7
  exact lv_dup h1.1 h1.2.1 hd ((pm_cat ad v).trans hv) (k p e s m below meth c D cA ad H locs la h1 h2 h3 h4 h5 h6 h7)
theorem lu_istore_n {i : Fin 4} {x : Int32} {ls' : List (Option Value)} (hd : decode cL_law pc = .ok (.istore_n i, 1)) (hl : pm_st1 ls i (.int x) = ls') (k : lw_U l b L xs sh kc ks (pc + 1) ls' st μ) : lw_U l b L xs sh kc ks pc ls (.int x :: st) μ := by
  intro p e s m below meth c D cA ad H locs la h1 h2 h3 h4 h5 h6 h7
  subst hl
  refine lv_istore_n (lv := pm_l ad 0 ls) (lv' := _) h1.1 h1.2.1 hd rfl h7 i.2 rfl (fun la' hla => k p e s m below meth c D cA ad H locs la' h1 h2 h3 h4 h5 h6 ⟨hla.1, hla.2.1, fun q hq => hla.2.2 q ?_⟩)
  exact pm_st1_mem hq
theorem lu_astore_n {i : Fin 4} {x : Nat} {ls' : List (Option Value)} (hd : decode cL_law pc = .ok (.astore_n i, 1)) (hl : pm_st1 ls i (.ref x) = ls') (k : lw_U l b L xs sh kc ks (pc + 1) ls' st μ) : lw_U l b L xs sh kc ks pc ls (.ref x :: st) μ := by
  intro p e s m below meth c D cA ad H locs la h1 h2 h3 h4 h5 h6 h7
  subst hl
  refine lv_astore_n (lv := pm_l ad 0 ls) (lv' := _) h1.1 h1.2.1 hd rfl h7 i.2 rfl (fun la' hla => k p e s m below meth c D cA ad H locs la' h1 h2 h3 h4 h5 h6 ⟨hla.1, hla.2.1, fun q hq => hla.2.2 q ?_⟩)
  exact pm_st1_mem hq
/-- places below the number of cells, or the script's -/
def lw_vb (n : Nat) : Value → Bool
  | .ref i => Nat.blt i n || Nat.beq i 1000
  | _ => true
def lw_ob (n : Nat) : Option Value → Bool
  | some v => lw_vb n v
  | none => true
theorem lw_vb_eq {n : Nat} {ad ad' : Nat → Nat} (h : ∀ i, i < n → ad' i = ad i) (h0 : ad' 1000 = ad 1000) {v : Value} (hv : lw_vb n v = true) : pm_v ad' v = pm_v ad v := by
  cases v with
  | ref i =>
    show Value.ref (ad' i) = Value.ref (ad i)
    rcases (Bool.or_eq_true _ _).mp hv with q | q
    · rw [h i (Nat.blt_eq.mp q)]
    · rw [Nat.eq_of_beq_eq_true q, h0]
  | _ => rfl
theorem lw_lb_eq {n : Nat} {ad ad' : Nat → Nat} (h : ∀ i, i < n → ad' i = ad i) (h0 : ad' 1000 = ad 1000) : ∀ (ls : List (Option Value)) (i : Nat), ls.all (lw_ob n) = true → pm_l ad' i ls = pm_l ad i ls
  | [], _, _ => rfl
  | none :: xs, i, hb => by
    rw [List.all_cons, Bool.and_eq_true] at hb
    exact lw_lb_eq h h0 xs (i + 1) hb.2
  | some v :: xs, i, hb => by
    rw [List.all_cons, Bool.and_eq_true] at hb
    show (i, pm_v ad' v) :: pm_l ad' (i + 1) xs = (i, pm_v ad v) :: pm_l ad (i + 1) xs
    rw [lw_lb_eq h h0 xs (i + 1) hb.2, lw_vb_eq h h0 hb.1]
theorem lu_new {sh' : pm_S} {C : String} {T : u_T} {N ci j : Nat} {fs : List (Option Value)} (ty : Nat → FieldType) (hd : decode cL_law pc = .ok (.new idx, 3)) (hin : ∀ w ∈ u_ws C T N, w ∈ pm_T) (hty : ∀ k, k < N → parseFieldDescriptor (T k).2.2.1 = some (ty k)) (hL : Cond.classLink RL idx C ∈ pm_T ∧ Cond.instantiable C N ∈ pm_T ∧ Cond.initialized C ∈ pm_T) (hc : vwCl[ci]? = some (C, T, N)) (hfs : ∀ (ad : Nat → Nat) (k : Nat), k < N → defaultValue (ty k) = vp_V (pm_f ad (fun _ => 0) 0 fs) k) (hok : pm_ok sh [] st = true) (hls : ls.all (lw_ob sh.length) = true) (hx : pm_eb sh.length (.inr (ci, fs)) = true) (hj : sh.length = j) (hj2 : j ≠ 1000) (hsh : sh ++ [.inr (ci, fs)] = sh') (hk : kc + 1 ≤ room_1.cells ∧ ks + N ≤ room_1.slots)
    (k : lw_U l b L xs sh' (kc + 1) (ks + N) (pc + 3) ls (.ref j :: st) (pm_row μ j (fun _ => 0))) : lw_U l b L xs sh kc ks pc ls st μ := by
  intro p e s m below meth c D cA ad H locs la h1 h2 h3 h4 h5 h6 h7
  have hts : ∀ w ∈ pm_T, w.before #[Value.ref b] s = true := fun w hw => h1.2.2.2.2.2.1 w (List.mem_filter.mp hw).1
  subst hj
  subst hsh
  refine va_new (fs := pm_f ad (fun _ => 0) 0 fs) (C := C) (T := T) (N := N) (ci := ci) h1.1 h1.2.1 hts hin ty hty h1.2.2.2.2.1 (hts _ hL.1) (hts _ hL.2.1) (hts _ hL.2.2) h2 h4 h5 h6 (fun q h => h) hc (hfs ad) hk.1 hk.2 hd (fun q H1 hP hD hS => ?_)
  obtain ⟨g1, g2, -, g4⟩ := pm_grow (ad := ad) (cA := cA) (q := q) (μ := μ) hok hx
  have g2' : pm_w ad cA μ 0 sh ++ [(q, .inr (ci, pm_f ad (fun _ => 0) 0 fs))] = _ := g2
  rw [g2'] at hP hD
  have h30 : (fun i => if i = sh.length then q else ad i) 1000 = ad 1000 := if_neg (fun z => hj2 z.symm)
  have hfin := k p e s m below meth c D cA (fun i => if i = sh.length then q else ad i) H1 locs la h1 h2 (h30.trans h3) hP hD hS (by rw [lw_lb_eq g1 h30 ls 0 hls]; exact h7)
  rw [List.map_cons, g4] at hfin
  have e2 : pm_v (fun i => if i = sh.length then q else ad i) (.ref sh.length) = .ref q := by show Value.ref (if sh.length = sh.length then q else _) = _; rw [if_pos rfl]
  rw [e2] at hfin
  exact hfin
theorem lu_ci {sh' : pm_S} {n nL' mc' ms' j : Nat} {y : MethodName} {cc' : ByteArray} {R' : Room} {rest as : List Value} {oc : Option pm_M} {x : pm_M} (hd : decode cL_law pc = .ok (.invokespecial idx, 3)) (hY : pm_Y y cc' nL' none n) (hL : pm_LI RL idx y) (hok : pm_Ok l y cc' nL' none R' (.ref j :: as) sh true sh' mc' ms' (fun r => (none, r)) μ oc) (hx : oc = some x) (hn : as.length = n) (hr : pm_rm R' nL' room_1 mc' ms') (hk : kc + mc' ≤ room_1.cells ∧ ks + ms' ≤ room_1.slots) (hw : (rest.map fun v => v.category).sum ≤ 8) (hst : st = as.reverse ++ .ref j :: rest) (hsz : sh.length ≤ sh'.length) (hsz2 : sh'.length ≤ 1000) (hok1 : sh'.all (pm_eb sh'.length) = true) (hok2 : pm_ok sh [] rest = true) (hls : ls.all (lw_ob sh.length) = true)
    (k : lw_U l b L xs sh' (kc + mc') (ks + ms') (pc + 3) ls rest x) : lw_U l b L xs sh kc ks pc ls st μ := by
  intro p e s m below meth c D cA ad H locs la h1 h2 h3 h4 h5 h6 h7
  have hM := hok x hx D cA ad sh.length H.size (fun _ => Nat.le_refl _)
  have hts : ∀ w ∈ pm_T, w.before #[Value.ref b] s = true := fun w hw => h1.2.2.2.2.2.1 w (List.mem_filter.mp hw).1
  have hpre := pm_pre h2 h4 h5 ((Value.ref j :: as).map (pm_v ad))
  have hcat : (rest.map (pm_v ad)).map (fun v => v.category) = rest.map (fun v => v.category) := by
    rw [List.map_map]; exact List.map_congr_left (fun v _ => pm_cat ad v)
  have hstk : st.map (pm_v ad) = (as.map (pm_v ad)).reverse ++ Value.ref (ad j) :: rest.map (pm_v ad) := by rw [hst, List.map_append, List.map_reverse]; rfl
  have hrun : va_Run p l e room_1 s m #[Value.ref b] below meth c H locs kc ks mc' ms' (F0 m pc la (st.map (pm_v ad))) (rest.map (pm_v ad)) (pm_Q D cA ad sh.length sh' none x (va_A (pm_w ad cA μ 0 sh) H.size) (Value.ref (ad j) :: as.map (pm_v ad)).toArray) (va_A (pm_w ad cA μ 0 sh) H.size) :=
    va_runI (n := n) (cc := cL_law) ⟨h1.1, h1.2.1, h1.2.2.2.1, h1.2.2.2.2.1, hts⟩ hM ⟨pm_cb hts hY hL.1 hr, hL.2.2, hts _ hL.2.1⟩ hpre rfl (by rw [List.length_map]; exact hn) h7.1 hstk (by rw [hcat]; show 2 * 0 + _ ≤ 8; omega) hd hk
  refine pm_after hrun (fun q h => h) h5 h6 (fun ad' H1 locs1 ha hP hD hS => ?_)
  unfold pm_ok at hok2
  rw [Bool.and_eq_true, Bool.and_eq_true] at hok2
  -- beyond the cells the addresses are as before
  have e0 : ∀ i, i < sh'.length → (fun i => if i < sh'.length then ad' i else ad i) i = ad' i := fun i hi => if_pos hi
  have e1 : ∀ i, i < sh.length → (fun i => if i < sh'.length then ad' i else ad i) i = ad i := fun i hi => (if_pos (Nat.lt_of_lt_of_le hi hsz)).trans (ha i hi)
  have e2 : (fun i => if i < sh'.length then ad' i else ad i) 1000 = ad 1000 := if_neg (by omega)
  have e3 := pm_wb_eq (cA := cA) (μ := x) e0 sh' 0 (by omega) hok1
  rw [← e3] at hP hD
  have hfin := k p e s m below meth c D cA (fun i => if i < sh'.length then ad' i else ad i) H1 locs1 la h1 h2 (e2.trans h3) hP hD hS (by rw [lw_lb_eq e1 e2 ls 0 hls]; exact h7)
  rw [pm_sb_eq e1 rest hok2.2.2] at hfin
  exact hfin
theorem lu_V {pc' : Nat} (hs : sh = SH) (h1 : kc = 68) (h2 : ks = 5456) (k : lw_V l b L xs pc ls st μ) : lw_U l b L xs sh kc ks pc ls st μ := by
  subst hs
  subst h1
  subst h2
  exact k
end LWU
/-- the numbers when both objects stand -/
def lw_made (μ2 : pm_M) : Prop := ∃ μ1 : pm_M, f_X9_init_0 (pm_row (fun _ _ => 0) 0 (fun _ => 0)) = some μ1 ∧ f_X10_init_50 (pm_row μ1 50 (fun _ => 0)) = some μ2
set_option maxHeartbeats 2000000 in
set_option maxRecDepth 20000 in
theorem lw_first {l : Launch} {b L : Nat} {xs : Nat → Int32} (hL : L ≤ 3072) {Rel : pm_M → Prop} (hok : ok_all Rel) {μ2 : pm_M} (h0 : lw_made μ2) (hR : Rel μ2) : lw_U l b L xs [] 0 0 0 [some (.ref 1000), none, none, none] [] (fun _ _ => 0) := by
  obtain ⟨μ1, hx, hm⟩ := h0
  refine lu_new (sh' := CS0) (ci := 8) (fs := [some .null, some .null, some .null, some .null, some .null, some .null, some .null, some .null]) (j := 0) tyX9 dL_law_0 in_X9 tyX9_ok nw_L_7 rfl (fun ad k hk => by rcases (show k = 0 ∨ k = 1 ∨ k = 2 ∨ k = 3 ∨ k = 4 ∨ k = 5 ∨ k = 6 ∨ k = 7 by omega) with rfl | rfl | rfl | rfl | rfl | rfl | rfl | rfl <;> rfl) rfl rfl rfl rfl (by decide) rfl ⟨Nat.le_of_ble_eq_true rfl, Nat.le_of_ble_eq_true rfl⟩ ?_
  refine lu_dup dL_law_3 rfl ?_
  refine lu_ci (sh' := CS98) (rest := [.ref 0]) dL_law_4 my_X9_init il_L_9 (k_X9_init_0 l _) hx rfl ⟨rfl, rfl, Nat.le_of_ble_eq_true rfl, Nat.le_of_ble_eq_true rfl⟩ ⟨Nat.le_of_ble_eq_true rfl, Nat.le_of_ble_eq_true rfl⟩ (Nat.le_of_ble_eq_true rfl) rfl (Nat.le_of_ble_eq_true rfl) (Nat.le_of_ble_eq_true rfl) rfl rfl rfl ?_
  refine lu_astore_n (ls' := [some (.ref 1000), some (.ref 0), none, none]) dL_law_7 rfl ?_
  refine lu_new (sh' := CS99) (ci := 9) (fs := [some .null, some .null, some .null, some .null, none, some .null, none, some .null, none, none, none, some .null, none, none, some .null, some .null, some .null, some .null, some .null, some .null, some .null, some .null, some .null, some .null]) (j := 50) tyX10 dL_law_8 in_X10 tyX10_ok nw_L_10 rfl (fun ad k hk => by rcases (show k = 0 ∨ k = 1 ∨ k = 2 ∨ k = 3 ∨ k = 4 ∨ k = 5 ∨ k = 6 ∨ k = 7 ∨ k = 8 ∨ k = 9 ∨ k = 10 ∨ k = 11 ∨ k = 12 ∨ k = 13 ∨ k = 14 ∨ k = 15 ∨ k = 16 ∨ k = 17 ∨ k = 18 ∨ k = 19 ∨ k = 20 ∨ k = 21 ∨ k = 22 ∨ k = 23 by omega) with rfl | rfl | rfl | rfl | rfl | rfl | rfl | rfl | rfl | rfl | rfl | rfl | rfl | rfl | rfl | rfl | rfl | rfl | rfl | rfl | rfl | rfl | rfl | rfl <;> rfl) rfl rfl rfl rfl (by decide) rfl ⟨Nat.le_of_ble_eq_true rfl, Nat.le_of_ble_eq_true rfl⟩ ?_
  refine lu_dup dL_law_11 rfl ?_
  refine lu_ci (sh' := CS133) (rest := [.ref 50]) dL_law_12 my_X10_init il_L_12 (k_X10_init_50 l _) hm rfl ⟨rfl, rfl, Nat.le_of_ble_eq_true rfl, Nat.le_of_ble_eq_true rfl⟩ ⟨Nat.le_of_ble_eq_true rfl, Nat.le_of_ble_eq_true rfl⟩ (Nat.le_of_ble_eq_true rfl) rfl (Nat.le_of_ble_eq_true rfl) (Nat.le_of_ble_eq_true rfl) rfl rfl rfl ?_
  refine lu_astore_n (ls' := [some (.ref 1000), some (.ref 0), some (.ref 50), none]) dL_law_15 rfl ?_
  refine lu_iconst (v := 0) dL_law_16 (by decide) ?_
  refine lu_istore_n (ls' := [some (.ref 1000), some (.ref 0), some (.ref 50), some (.int 0)]) dL_law_17 rfl ?_
  exact lu_V (pc' := 18) cs_end rfl rfl (lw_loop hL hok (L + 7) 0 μ2 (by omega) (Nat.zero_le _) hR)
theorem lw_choose {s : State} (h : ∀ (k : Nat) (q : vw_C), vwCl[k]? = some q → ∃ (c : ClassId) (iS : Nat → Nat), u_Kn s q.1 q.2.1 q.2.2 c iS) : ∃ (dC : Nat → ClassId) (dI : Nat → Nat → Nat), ∀ (k : Nat) (q : vw_C), vwCl[k]? = some q → u_Kn s q.1 q.2.1 q.2.2 (dC k) (dI k) := by
  have h2 : ∀ k : Nat, ∃ p : ClassId × (Nat → Nat), ∀ q : vw_C, vwCl[k]? = some q → u_Kn s q.1 q.2.1 q.2.2 p.1 p.2 := by
    intro k
    cases hq : vwCl[k]? with
    | none => exact ⟨(0, fun _ => 0), fun q hq => by cases hq⟩
    | some q =>
      obtain ⟨c, iS, hc⟩ := h k q hq
      exact ⟨(c, iS), fun q' hq' => by cases hq'; exact hc⟩
  refine ⟨fun k => (Classical.choose (h2 k)).1, fun k => (Classical.choose (h2 k)).2, fun k q hq => Classical.choose_spec (h2 k) q hq⟩
set_option maxHeartbeats 2000000 in
set_option maxRecDepth 20000 in
theorem lw_begin {Rel : pm_M → Prop} (hok : ok_all Rel) {μ2 : pm_M} (h0 : lw_made μ2) (hR : Rel μ2) {p : Program} {e : Env} {s : State} {m : MethodId} {below : List Frame} {meth : Method} {c : Code} (l : Launch) {b L : Nat} {xs : Nat → Int32} (hL : L ≤ 3072) (C0 : lw_At p s m meth c b L xs) : W p l e room_1 s m #[Value.ref b] below meth c s.heap [] 0 0 (lw_Z below #[Value.ref b] s) (entryFrame m ([Value.ref b] : List Value).toArray 4) := by
  obtain ⟨hx, hb, hr, hml, hown, hts0, hX, hbl, hlocks, hgv⟩ := id C0
  have hts : ∀ w ∈ pm_T, w.before #[Value.ref b] s = true := fun w hw => hts0 w (List.mem_filter.mp hw).1
  obtain ⟨dC, dI, hKc⟩ := lw_choose (s := s) (by
    intro k q hq
    have hlt : k < 10 := (List.getElem?_eq_some_iff.mp hq).1
    rcases (show k = 0 ∨ k = 1 ∨ k = 2 ∨ k = 3 ∨ k = 4 ∨ k = 5 ∨ k = 6 ∨ k = 7 ∨ k = 8 ∨ k = 9 by omega) with rfl | rfl | rfl | rfl | rfl | rfl | rfl | rfl | rfl | rfl
    · cases hq; exact u_known hts in_X1 (hts _ nw_X8_16.2.1)
    · cases hq; exact u_known hts in_X2 (hts _ nw_X8_7.2.1)
    · cases hq; exact u_known hts in_X3 (hts _ nw_X9_29.2.1)
    · cases hq; exact u_known hts in_X4 (hts _ nw_X9_50.2.1)
    · cases hq; exact u_known hts in_X5 (hts _ nw_X9_43.2.1)
    · cases hq; exact u_known hts in_X6 (hts _ nw_X8_23.2.1)
    · cases hq; exact u_known hts in_X7 (hts _ nw_X9_36.2.1)
    · cases hq; exact u_known hts in_X8 (hts _ nw_X9_9.2.1)
    · cases hq; exact u_known hts in_X9 (hts _ nw_L_7.2.1)
    · cases hq; exact u_known hts in_X10 (hts _ nw_L_10.2.1))
  obtain ⟨c1, k1, m1, a1, a2, a3⟩ := Cond.arrayClass_spec (hts _ ar_int)
  obtain ⟨c2, k2, m2, b1, b2, b3⟩ := Cond.arrayClass_spec (hts _ ar_bool)
  have hK : va_K (dC, dI) vwCl (pm_ty (fun t => if t = 0 then c1 else c2)) s := by
    refine ⟨hKc, fun k q hq => ?_⟩
    match k, hq with
    | 0, hq => cases hq; exact ⟨fun n z => ⟨fun k h => (by cases h), k1, a2, m1, a3⟩, a1⟩
    | 1, hq => cases hq; exact ⟨fun n z => ⟨fun k h => (by cases h), k2, b2, m2, b3⟩, b1⟩
    | k + 2, hq => simp [pm_ty] at hq
  have hl := lv_entry ([.ref b]) (n := 4) (Nat.le_of_ble_eq_true rfl)
  rw [lg_entry_eq]
  exact lw_first (l := l) hL hok h0 hR p e s m below meth c (dC, dI) (fun t => if t = 0 then c1 else c2) (fun _ => b) s.heap [] _ C0 hK rfl (fun k q h => by simp [pm_w] at h) ⟨fun i j p q h => by simp [pm_w] at h, fun k q h => by simp [pm_w] at h⟩ va_S.rf hl
