/-! words of the tables: kept by every state that comes -/
theorem pm_warm {args : Array Value} {s : State} (h : ∀ w ∈ pm_T, w.before args s = true) : ∀ w ∈ pm_T, ∀ (a' : Array Value) (U : State), s.WarmedH U.vm → w.before a' U = true := by
  intro w hw a' U hW
  have h1 : pm_okw w = true := (List.mem_filter.mp hw).2
  have h2 := h w hw
  cases w <;> first
    | exact va_Nw.use rfl (va_Nw.warmF hW (va_Nw.of rfl h2))
    | exact va_Nw.use rfl (va_Nw.warmM hW (va_Nw.of rfl h2))
    | exact word_at hW (good_of_word h1) h2
/-! THE CONTRACT of a method: from the cells sh with the numbers μ it ends with what 'o' says. -/
def pm_Ok {τ : Type} (l : Launch) (y : MethodName) (cc : ByteArray) (nL : Nat) (ret : Option FieldType) (R : Room) (av : List Value) (sh : pm_S) (g : Bool) (shE : pm_S) (mc ms : Nat) (fin : τ → Option Value × pm_M) (μ : pm_M) (o : Option τ) : Prop :=
  ∀ x, o = some x → ∀ (D : va_G) (cA : Nat → ClassId) (ad : Nat → Nat) (n0 sz : Nat), (g = true → n0 ≤ sh.length) →
    Met l y (Cond.code y cc nL ret :: pm_T) R (va_Pc (av.map (pm_v ad)) (fun U => U.heap.size = sz ∧ va_P D vwCl (pm_w ad cA μ 0 sh) U.heap ∧ va_K D vwCl (pm_ty cA) U ∧ va_D (fun _ => True) (pm_w ad cA μ 0 sh))) (pm_Q D cA ad n0 shE (fin x).1 (fin x).2 (va_A (pm_w ad cA μ 0 sh) sz)) mc ms (va_A (pm_w ad cA μ 0 sh) sz)
def pm_x : List Value → List (Option Value)
  | [] => []
  | v :: vs => if v.category = 2 then some v :: none :: pm_x vs else some v :: pm_x vs
def pm_a (nL : Nat) (av : List Value) : List (Option Value) := pm_x av ++ List.replicate (nL - (pm_x av).length) none
theorem pm_a_mem {ad : Nat → Nat} {k : Nat} : ∀ (av : List Value) (i : Nat) (q : Nat × Value), q ∈ pm_l ad i (pm_x av ++ List.replicate k none) → q ∈ lv_args i (av.map (pm_v ad))
  | [], i, q, h => by
    obtain ⟨j, v, h1, -⟩ := (pm_l_mem _ i q).mp h
    have h2 := List.eq_of_mem_replicate (show some v ∈ List.replicate k none from List.mem_of_getElem? h1)
    cases h2
  | v :: vs, i, q, h => by
    by_cases hc : v.category = 2
    · have e1 : pm_x (v :: vs) = some v :: none :: pm_x vs := by show (if v.category = 2 then _ else _) = _; rw [if_pos hc]
      rw [e1] at h
      have h : q ∈ (i, pm_v ad v) :: pm_l ad (i + 2) (pm_x vs ++ List.replicate k none) := h
      show q ∈ (i, pm_v ad v) :: lv_args (if (pm_v ad v).category = 2 then i + 2 else i + 1) (vs.map (pm_v ad))
      rw [pm_cat, if_pos hc]
      rcases List.mem_cons.mp h with h | h
      · exact List.mem_cons.mpr (Or.inl h)
      · exact List.mem_cons_of_mem _ (pm_a_mem vs (i + 2) q h)
    · have e1 : pm_x (v :: vs) = some v :: pm_x vs := by show (if v.category = 2 then _ else _) = _; rw [if_neg hc]
      rw [e1] at h
      have h : q ∈ (i, pm_v ad v) :: pm_l ad (i + 1) (pm_x vs ++ List.replicate k none) := h
      show q ∈ (i, pm_v ad v) :: lv_args (if (pm_v ad v).category = 2 then i + 2 else i + 1) (vs.map (pm_v ad))
      rw [pm_cat, if_neg hc]
      rcases List.mem_cons.mp h with h | h
      · exact List.mem_cons.mpr (Or.inl h)
      · exact List.mem_cons_of_mem _ (pm_a_mem vs (i + 1) q h)
theorem pm_enter {τ : Type} {l : Launch} {y : MethodName} {cc : ByteArray} {own : String} {nL : Nat} {ret : Option FieldType} {R : Room} {av : List Value} {sh : pm_S} {g : Bool} {shE : pm_S} {mc ms : Nat} {fin : τ → Option Value × pm_M} {μ : pm_M} {o : Option τ} {ls : List (Option Value)}
    (hy : plainName y.cls = true) (ho : y.cls = own) (hi : g = true → y.name = "<init>") (hls : pm_a nL av = ls) (hlen : ∀ ad, (lg_sl (av.map (pm_v ad))).length ≤ nL) (k : pm_V l cc own nL ret R g shE mc ms fin sh 0 0 0 ls [] μ o) : pm_Ok l y cc nL ret R av sh g shE mc ms fin μ o := by
  intro x hx D cA ad n0 sz hn0
  refine Met.ofW (cc := cc) (maxL := nL) (ret := ret) hy rfl ?_
  intro p e s m args below meth c s₁ B hml hv
  obtain ⟨rfl, hsz, hP, hK, hD0⟩ := hv
  have hts := atoms_spec (ws := Cond.code y cc nL ret :: pm_T) B.pre
  have hown : s.vm.findClass own = some m.cls := ho ▸ findClass_of_methodNamed B.named
  subst hsz
  subst hls
  have hl := lv_entry (av.map (pm_v ad)) (n := nL) (hlen ad)
  rw [lg_entry_eq]
  refine k x hx p e s m _ below meth c D cA ad ad n0 (va_A (pm_w ad cA μ 0 sh) s.heap.size) s.heap [] _ ⟨B.exec, B.bytes, hml, hown, B.returns, B.notSynchronized, fun w hw => hts w (List.mem_cons_of_mem _ hw), hK⟩ (fun _ _ => rfl) (fun hg => ⟨hn0 hg, ((name_of_methodNamed B.named B.method).1).trans (hi hg)⟩) (fun q h => Or.inr h) hP hD0.self va_S.rf ?_
  exact ⟨hl.1, hl.2.1, fun q hq => hl.2.2 q (pm_a_mem av 0 q hq)⟩
/-! CALLS: what the tables say of a method, and of a link to it -/
def pm_Y (y : MethodName) (cc : ByteArray) (nL : Nat) (ret : Option FieldType) (n : Nat) : Prop := Cond.code y cc nL ret ∈ pm_T ∧ Cond.initialized y.cls ∈ pm_T ∧ (y.cls ≠ "java/lang/invoke/MethodHandle" ∧ y.cls ≠ "java/lang/invoke/VarHandle") ∧ (parseMethodDescriptor y.desc).map (fun d => d.parameters.length) = some n
def pm_LS (own : String) (idx : Nat) (y : MethodName) : Prop := (Cond.methodLink own idx y ∈ pm_T ∨ ∃ host, Cond.methodLinkNest own idx y host ∈ pm_T) ∧ Cond.static y ∈ pm_T
def pm_LV (own : String) (idx : Nat) (y : MethodName) : Prop := Cond.methodLink own idx y ∈ pm_T ∧ Cond.instanceMethod y ∈ pm_T ∧ Cond.selects y.cls y y ∈ pm_T
def pm_LI (own : String) (idx : Nat) (y : MethodName) : Prop := Cond.methodLink own idx y ∈ pm_T ∧ Cond.instanceMethod y ∈ pm_T ∧ y.name = "<init>"
/-- the room of a callee fits the caller's -/
def pm_rm (R' : Room) (nL' : Nat) (R : Room) (mc ms : Nat) : Prop := R'.cells = mc ∧ R'.slots = ms ∧ R'.frames + 1 ≤ R.frames ∧ 8 + (nL' + 11) + R'.locals ≤ R.locals
theorem pm_cb {R R' : Room} {s : State} {args : Array Value} {own : String} {idx n nL' mc ms : Nat} {y : MethodName} {cc' : ByteArray} {ret' : Option FieldType} (hts : ∀ w ∈ pm_T, w.before args s = true) (hY : pm_Y y cc' nL' ret' n) (hL : Cond.methodLink own idx y ∈ pm_T) (hr : pm_rm R' nL' R mc ms) :
    CallB R s args own idx y cc' nL' ret' (Cond.code y cc' nL' ret' :: pm_T) R' mc ms n := by
  obtain ⟨y1, y2, y3, y4⟩ := hY
  refine ⟨hr.1, hr.2.1, hr.2.2.1, hr.2.2.2, fun w hw => pm_warm hts w ((List.mem_cons.mp hw).elim (fun e => e ▸ y1) id), List.mem_cons_self, hts _ y1, hts _ y2, y3, fun sig h => ?_, hts _ hL⟩
  rw [h] at y4
  exact (Option.some.inj y4).symm
theorem pm_cn {R R' : Room} {s : State} {args : Array Value} {own host : String} {idx n nL' mc ms : Nat} {y : MethodName} {cc' : ByteArray} {ret' : Option FieldType} (hts : ∀ w ∈ pm_T, w.before args s = true) (hY : pm_Y y cc' nL' ret' n) (hL : Cond.methodLinkNest own idx y host ∈ pm_T) (hr : pm_rm R' nL' R mc ms) :
    va_CN R s args own idx y host cc' nL' ret' (Cond.code y cc' nL' ret' :: pm_T) R' mc ms n := by
  obtain ⟨y1, y2, y3, y4⟩ := hY
  refine ⟨⟨hr.1, hr.2.1, hr.2.2.1, hr.2.2.2, fun w hw => pm_warm hts w ((List.mem_cons.mp hw).elim (fun e => e ▸ y1) id), List.mem_cons_self⟩, hts _ y1, hts _ y2, y3, fun sig h => ?_, hts _ hL⟩
  rw [h] at y4
  exact (Option.some.inj y4).symm
theorem pm_pre {s : State} {H : Heap} {D : va_G} {cA : Nat → ClassId} {ad : Nat → Nat} {sh : pm_S} {μ : pm_M} {A : Nat → Prop} (hK : va_K D vwCl (pm_ty cA) s) (hP : va_P D vwCl (pm_w ad cA μ 0 sh) H) (hD : va_D A (pm_w ad cA μ 0 sh)) (As : List Value) :
    PreS s H (va_Pc As (fun U => U.heap.size = H.size ∧ va_P D vwCl (pm_w ad cA μ 0 sh) U.heap ∧ va_K D vwCl (pm_ty cA) U ∧ va_D (fun _ => True) (pm_w ad cA μ 0 sh))) As :=
  ⟨fun a U g mk q => by obtain ⟨q0, q1, qP, qK, qD⟩ := q; exact ⟨q0, q1, qP, va_K.moved (u := U) (U := U.calling g mk a) (Vm.Alike.refl U.vm) qK, qD⟩, fun U hU hW => ⟨rfl, by rw [hU], by rw [hU]; exact hP, va_K.moved hW.alike hK, hD.weaken (fun _ _ _ _ => trivial)⟩⟩
theorem pm_after {p : Program} {l : Launch} {e : Env} {R : Room} {s : State} {m : MethodId} {args : Array Value} {below : List Frame} {meth : Method} {c : Code} {H : Heap} {locs : List Loc} {kc ks mc' ms' n1 pc : Nat} {Q : State → Prop} {la : Array Slot} {st0 rest : List Value} {D : va_G} {cA : Nat → ClassId} {ad : Nat → Nat} {A : Nat → Prop} {sh sh' : pm_S} {rv : Option Value} {μ μ' : pm_M} {a : Array Value}
    (hr : va_Run p l e R s m args below meth c H locs kc ks mc' ms' (F0 m pc la st0) rest (pm_Q D cA ad n1 sh' rv μ' (va_A (pm_w ad cA μ 0 sh) H.size) a) (va_A (pm_w ad cA μ 0 sh) H.size)) (h4 : ∀ q, s.heap.size ≤ q → A q) (h6 : va_D A (pm_w ad cA μ 0 sh)) (h7 : va_S A s.heap H locs)
    (kk : ∀ (ad' : Nat → Nat) (H1 : Heap) (locs1 : List Loc), (∀ i, i < n1 → ad' i = ad i) → va_P D vwCl (pm_w ad' cA μ' 0 sh') H1 → va_D A (pm_w ad' cA μ' 0 sh') → va_S A s.heap H1 locs1 → W p l e R s m args below meth c H1 locs1 (kc + mc') (ks + ms') Q (F0 m (pc + 3) la (rv.toList ++ rest))) : W p l e R s m args below meth c H locs kc ks Q (F0 m pc la st0) := by
  have hF : ∀ q, va_A (pm_w ad cA μ 0 sh) H.size q → A q := by
    rintro q (⟨k, x, hk⟩ | h)
    · exact h6.2 k _ hk
    · exact h4 q (Nat.le_trans h7.1 h)
  intro T hT X
  obtain ⟨v, st₀, t, T', L, h0, X', hL, e1, e2, ⟨⟨hv, ad', ha, hP, hD⟩, hz, hk⟩, stp⟩ := hr T hT X
  cases hv
  rw [h0] at hz hk
  obtain ⟨t2, a1, b1⟩ := kk ad' T'.heap (locs ++ L) ha (by rw [e1]; exact hP) (hD.weaken (fun k q _ h => hF q.1 h))
    ⟨Nat.le_trans h7.1 (by rw [e1]; exact hz), fun q q1 q2 => by rw [e1, hk q (Nat.lt_of_lt_of_le q1 h7.1) (fun z => q2 (hF q z))]; exact h7.2.1 q q1 q2, fun q hq => by
      rcases List.mem_append.mp hq with h | h
      · exact h7.2.2 q h
      · exact hF _ (hL q h)⟩ T' rfl X'
  exact ⟨t2, stp t2 a1, b1⟩
section PMC
variable {τ : Type} {l : Launch} {cc : ByteArray} {own : String} {nL : Nat} {ret : Option FieldType} {R : Room} {g : Bool} {shE : pm_S} {mc ms : Nat} {fin : τ → Option Value × pm_M} {sh : pm_S} {kc ks pc : Nat} {ls : List (Option Value)} {st : List Value} {μ : pm_M} {o o1 o2 : Option τ}
variable {τ' : Type} {idx n nL' : Nat} {y : MethodName} {cc' : ByteArray} {ret' : Option FieldType} {R' : Room} {rest : List Value} {fin' : τ' → Option Value × pm_M} {oc : Option τ'} {K : τ' → Option τ}
theorem pv_cs0 {av : List Value} (hd : decode cc pc = .ok (.invokestatic idx, 3)) (hY : pm_Y y cc' nL' ret' n) (hL : pm_LS own idx y) (hok : pm_Ok l y cc' nL' ret' R' av sh false sh 0 0 fin' μ oc) (hn : av.length = n) (hr : pm_rm R' nL' R 0 0) (hk : kc ≤ R.cells ∧ ks ≤ R.slots) (hw : (rest.map fun v => v.category).sum ≤ 8) (hst : st = av.reverse ++ rest) (hv : ∀ x ad, (fin' x).1.toList.map (pm_v ad) = (fin' x).1.toList)
    (k : ∀ x, pm_V l cc own nL ret R g shE mc ms fin sh kc ks (pc + 3) ls ((fin' x).1.toList ++ rest) (fin' x).2 (K x)) : pm_V l cc own nL ret R g shE mc ms fin sh kc ks pc ls st μ (oc.bind K) := by
  intro z hz p e s m args below meth c D cA ad ad0 n0 A H locs la h1 h2 h3 h4 h5 h6 h7 h8
  obtain ⟨x, hx, hz⟩ := Option.bind_eq_some_iff.mp hz
  obtain ⟨n1, hn1⟩ := pm_w_ad sh 0
  have hM := hok x hx D cA ad n1 H.size (fun h => by cases h)
  have hts := h1.2.2.2.2.2.2.1
  have hpre := pm_pre h1.2.2.2.2.2.2.2 h5 h6 (av.map (pm_v ad))
  have hcat : (rest.map (pm_v ad)).map (fun v => v.category) = rest.map (fun v => v.category) := by
    rw [List.map_map]; exact List.map_congr_left (fun v _ => pm_cat ad v)
  have hstk : st.map (pm_v ad) = (av.map (pm_v ad)).reverse ++ rest.map (pm_v ad) := by rw [hst, List.map_append, List.map_reverse]
  have hrun : va_Run p l e R s m args below meth c H locs kc ks 0 0 (F0 m pc la (st.map (pm_v ad))) (rest.map (pm_v ad)) (pm_Q D cA ad n1 sh (fin' x).1 (fin' x).2 (va_A (pm_w ad cA μ 0 sh) H.size) (av.map (pm_v ad)).toArray) (va_A (pm_w ad cA μ 0 sh) H.size) := by
    obtain ⟨hL1, hL2⟩ := hL
    rcases hL1 with hL1 | ⟨host, hL1⟩
    · exact va_runS (n := n) (cc := cc) ⟨h1.1, h1.2.1, h1.2.2.1, h1.2.2.2.1, hts⟩ hM ⟨pm_cb hts hY hL1 hr, hts _ hL2⟩ hpre rfl (by rw [List.length_map]; exact hn) h8.1 hstk (by rw [hcat]; show 2 * 0 + _ ≤ 8; omega) hd hk
    · exact va_runSN (n := n) (cc := cc) ⟨h1.1, h1.2.1, h1.2.2.1, h1.2.2.2.1, hts⟩ hM ⟨pm_cn hts hY hL1 hr, hts _ hL2, trivial⟩ hpre rfl (by rw [List.length_map]; exact hn) h8.1 hstk (by rw [hcat]; show 2 * 0 + _ ≤ 8; omega) hd hk
  refine pm_after hrun h4 h6 h7 (fun ad' H1 locs1 ha hP hD hS => ?_)
  rw [hn1 ad ad' cA (fin' x).2 ha] at hP hD
  have hg := k x z hz p e s m args below meth c D cA ad ad0 n0 A H1 locs1 la h1 h2 h3 h4 hP hD hS h8
  rw [List.map_append, hv x ad] at hg
  exact hg
theorem pv_cv0 {as : List Value} {j ci N : Nat} {T : u_T} {fs : List (Option Value)} (hd : decode cc pc = .ok (.invokevirtual idx, 3)) (hY : pm_Y y cc' nL' ret' n) (hL : pm_LV own idx y) (hok : pm_Ok l y cc' nL' ret' R' (.ref j :: as) sh false sh 0 0 fin' μ oc) (hs : sh[j]? = some (.inr (ci, fs))) (hc : vwCl[ci]? = some (y.cls, T, N)) (hn : as.length = n) (hr : pm_rm R' nL' R 0 0) (hk : kc ≤ R.cells ∧ ks ≤ R.slots) (hw : (rest.map fun v => v.category).sum ≤ 8) (hst : st = as.reverse ++ .ref j :: rest) (hv : ∀ x ad, (fin' x).1.toList.map (pm_v ad) = (fin' x).1.toList)
    (k : ∀ x, pm_V l cc own nL ret R g shE mc ms fin sh kc ks (pc + 3) ls ((fin' x).1.toList ++ rest) (fin' x).2 (K x)) : pm_V l cc own nL ret R g shE mc ms fin sh kc ks pc ls st μ (oc.bind K) := by
  intro z hz p e s m args below meth c D cA ad ad0 n0 A H locs la h1 h2 h3 h4 h5 h6 h7 h8
  obtain ⟨x, hx, hz⟩ := Option.bind_eq_some_iff.mp hz
  obtain ⟨n1, hn1⟩ := pm_w_ad sh 0
  have hM := hok x hx D cA ad n1 H.size (fun h => by cases h)
  have hts := h1.2.2.2.2.2.2.1
  have hpre := pm_pre h1.2.2.2.2.2.2.2 h5 h6 ((Value.ref j :: as).map (pm_v ad))
  have hcat : (rest.map (pm_v ad)).map (fun v => v.category) = rest.map (fun v => v.category) := by
    rw [List.map_map]; exact List.map_congr_left (fun v _ => pm_cat ad v)
  have hstk : st.map (pm_v ad) = (as.map (pm_v ad)).reverse ++ Value.ref (ad j) :: rest.map (pm_v ad) := by rw [hst, List.map_append, List.map_reverse]; rfl
  have hrun : va_Run p l e R s m args below meth c H locs kc ks 0 0 (F0 m pc la (st.map (pm_v ad))) (rest.map (pm_v ad)) (pm_Q D cA ad n1 sh (fin' x).1 (fin' x).2 (va_A (pm_w ad cA μ 0 sh) H.size) (Value.ref (ad j) :: as.map (pm_v ad)).toArray) (va_A (pm_w ad cA μ 0 sh) H.size) :=
    va_runV (n := n) (cc := cc) (C := y.cls) ⟨h1.1, h1.2.1, h1.2.2.1, h1.2.2.2.1, hts⟩ hM ⟨pm_cb hts hY hL.1 hr, hts _ hL.2.1, hts _ hL.2.2⟩ ⟨hpre.1, va_recv h1.2.2.2.2.2.2.2 h5 hc (pm_w_get0 hs), hpre.2⟩ rfl (by rw [List.length_map]; exact hn) h8.1 hstk (by rw [hcat]; show 2 * 0 + _ ≤ 8; omega) hd hk
  refine pm_after hrun h4 h6 h7 (fun ad' H1 locs1 ha hP hD hS => ?_)
  rw [hn1 ad ad' cA (fin' x).2 ha] at hP hD
  have hg := k x z hz p e s m args below meth c D cA ad ad0 n0 A H1 locs1 la h1 h2 h3 h4 hP hD hS h8
  rw [List.map_append, hv x ad] at hg
  exact hg
theorem pv_cs_ri {av : List Value} {oc : Option Int32} {K : Int32 → Option τ} (hd : decode cc pc = .ok (.invokestatic idx, 3)) (hY : pm_Y y cc' nL' ret' n) (hL : pm_LS own idx y) (hok : pm_Ok l y cc' nL' ret' R' av sh false sh 0 0 (fun r => (some (.int r), μ)) μ oc) (hn : av.length = n) (hr : pm_rm R' nL' R 0 0) (hk : kc ≤ R.cells ∧ ks ≤ R.slots) (hw : (rest.map fun v => v.category).sum ≤ 8) (hst : st = av.reverse ++ rest)
    (k : ∀ x, pm_V l cc own nL ret R g shE mc ms fin sh kc ks (pc + 3) ls (.int x :: rest) μ (K x)) : pm_V l cc own nL ret R g shE mc ms fin sh kc ks pc ls st μ (oc.bind K) := pv_cs0 hd hY hL hok hn hr hk hw hst (fun _ _ => rfl) k
theorem pv_cv_ri {as : List Value} {j ci N : Nat} {T : u_T} {fs : List (Option Value)} {oc : Option Int32} {K : Int32 → Option τ} (hd : decode cc pc = .ok (.invokevirtual idx, 3)) (hY : pm_Y y cc' nL' ret' n) (hL : pm_LV own idx y) (hok : pm_Ok l y cc' nL' ret' R' (.ref j :: as) sh false sh 0 0 (fun r => (some (.int r), μ)) μ oc) (hs : sh[j]? = some (.inr (ci, fs))) (hc : vwCl[ci]? = some (y.cls, T, N)) (hn : as.length = n) (hr : pm_rm R' nL' R 0 0) (hk : kc ≤ R.cells ∧ ks ≤ R.slots) (hw : (rest.map fun v => v.category).sum ≤ 8) (hst : st = as.reverse ++ .ref j :: rest)
    (k : ∀ x, pm_V l cc own nL ret R g shE mc ms fin sh kc ks (pc + 3) ls (.int x :: rest) μ (K x)) : pm_V l cc own nL ret R g shE mc ms fin sh kc ks pc ls st μ (oc.bind K) := pv_cv0 hd hY hL hok hs hc hn hr hk hw hst (fun _ _ => rfl) k
theorem pv_cs_rl {av : List Value} {oc : Option Int64} {K : Int64 → Option τ} (hd : decode cc pc = .ok (.invokestatic idx, 3)) (hY : pm_Y y cc' nL' ret' n) (hL : pm_LS own idx y) (hok : pm_Ok l y cc' nL' ret' R' av sh false sh 0 0 (fun r => (some (.long r), μ)) μ oc) (hn : av.length = n) (hr : pm_rm R' nL' R 0 0) (hk : kc ≤ R.cells ∧ ks ≤ R.slots) (hw : (rest.map fun v => v.category).sum ≤ 8) (hst : st = av.reverse ++ rest)
    (k : ∀ x, pm_V l cc own nL ret R g shE mc ms fin sh kc ks (pc + 3) ls (.long x :: rest) μ (K x)) : pm_V l cc own nL ret R g shE mc ms fin sh kc ks pc ls st μ (oc.bind K) := pv_cs0 hd hY hL hok hn hr hk hw hst (fun _ _ => rfl) k
theorem pv_cv_rl {as : List Value} {j ci N : Nat} {T : u_T} {fs : List (Option Value)} {oc : Option Int64} {K : Int64 → Option τ} (hd : decode cc pc = .ok (.invokevirtual idx, 3)) (hY : pm_Y y cc' nL' ret' n) (hL : pm_LV own idx y) (hok : pm_Ok l y cc' nL' ret' R' (.ref j :: as) sh false sh 0 0 (fun r => (some (.long r), μ)) μ oc) (hs : sh[j]? = some (.inr (ci, fs))) (hc : vwCl[ci]? = some (y.cls, T, N)) (hn : as.length = n) (hr : pm_rm R' nL' R 0 0) (hk : kc ≤ R.cells ∧ ks ≤ R.slots) (hw : (rest.map fun v => v.category).sum ≤ 8) (hst : st = as.reverse ++ .ref j :: rest)
    (k : ∀ x, pm_V l cc own nL ret R g shE mc ms fin sh kc ks (pc + 3) ls (.long x :: rest) μ (K x)) : pm_V l cc own nL ret R g shE mc ms fin sh kc ks pc ls st μ (oc.bind K) := pv_cv0 hd hY hL hok hs hc hn hr hk hw hst (fun _ _ => rfl) k
theorem pv_cs_wi {av : List Value} {oc : Option (Int32 × pm_M)} {K : (Int32 × pm_M) → Option τ} (hd : decode cc pc = .ok (.invokestatic idx, 3)) (hY : pm_Y y cc' nL' ret' n) (hL : pm_LS own idx y) (hok : pm_Ok l y cc' nL' ret' R' av sh false sh 0 0 (fun r => (some (.int r.1), r.2)) μ oc) (hn : av.length = n) (hr : pm_rm R' nL' R 0 0) (hk : kc ≤ R.cells ∧ ks ≤ R.slots) (hw : (rest.map fun v => v.category).sum ≤ 8) (hst : st = av.reverse ++ rest)
    (k : ∀ x, pm_V l cc own nL ret R g shE mc ms fin sh kc ks (pc + 3) ls (.int x.1 :: rest) x.2 (K x)) : pm_V l cc own nL ret R g shE mc ms fin sh kc ks pc ls st μ (oc.bind K) := pv_cs0 hd hY hL hok hn hr hk hw hst (fun _ _ => rfl) k
theorem pv_cv_wi {as : List Value} {j ci N : Nat} {T : u_T} {fs : List (Option Value)} {oc : Option (Int32 × pm_M)} {K : (Int32 × pm_M) → Option τ} (hd : decode cc pc = .ok (.invokevirtual idx, 3)) (hY : pm_Y y cc' nL' ret' n) (hL : pm_LV own idx y) (hok : pm_Ok l y cc' nL' ret' R' (.ref j :: as) sh false sh 0 0 (fun r => (some (.int r.1), r.2)) μ oc) (hs : sh[j]? = some (.inr (ci, fs))) (hc : vwCl[ci]? = some (y.cls, T, N)) (hn : as.length = n) (hr : pm_rm R' nL' R 0 0) (hk : kc ≤ R.cells ∧ ks ≤ R.slots) (hw : (rest.map fun v => v.category).sum ≤ 8) (hst : st = as.reverse ++ .ref j :: rest)
    (k : ∀ x, pm_V l cc own nL ret R g shE mc ms fin sh kc ks (pc + 3) ls (.int x.1 :: rest) x.2 (K x)) : pm_V l cc own nL ret R g shE mc ms fin sh kc ks pc ls st μ (oc.bind K) := pv_cv0 hd hY hL hok hs hc hn hr hk hw hst (fun _ _ => rfl) k
theorem pv_cs_wv {av : List Value} {oc : Option pm_M} {K : pm_M → Option τ} (hd : decode cc pc = .ok (.invokestatic idx, 3)) (hY : pm_Y y cc' nL' ret' n) (hL : pm_LS own idx y) (hok : pm_Ok l y cc' nL' ret' R' av sh false sh 0 0 (fun r => (none, r)) μ oc) (hn : av.length = n) (hr : pm_rm R' nL' R 0 0) (hk : kc ≤ R.cells ∧ ks ≤ R.slots) (hw : (rest.map fun v => v.category).sum ≤ 8) (hst : st = av.reverse ++ rest)
    (k : ∀ x, pm_V l cc own nL ret R g shE mc ms fin sh kc ks (pc + 3) ls (rest) x (K x)) : pm_V l cc own nL ret R g shE mc ms fin sh kc ks pc ls st μ (oc.bind K) := pv_cs0 hd hY hL hok hn hr hk hw hst (fun _ _ => rfl) k
theorem pv_cv_wv {as : List Value} {j ci N : Nat} {T : u_T} {fs : List (Option Value)} {oc : Option pm_M} {K : pm_M → Option τ} (hd : decode cc pc = .ok (.invokevirtual idx, 3)) (hY : pm_Y y cc' nL' ret' n) (hL : pm_LV own idx y) (hok : pm_Ok l y cc' nL' ret' R' (.ref j :: as) sh false sh 0 0 (fun r => (none, r)) μ oc) (hs : sh[j]? = some (.inr (ci, fs))) (hc : vwCl[ci]? = some (y.cls, T, N)) (hn : as.length = n) (hr : pm_rm R' nL' R 0 0) (hk : kc ≤ R.cells ∧ ks ≤ R.slots) (hw : (rest.map fun v => v.category).sum ≤ 8) (hst : st = as.reverse ++ .ref j :: rest)
    (k : ∀ x, pm_V l cc own nL ret R g shE mc ms fin sh kc ks (pc + 3) ls (rest) x (K x)) : pm_V l cc own nL ret R g shE mc ms fin sh kc ks pc ls st μ (oc.bind K) := pv_cv0 hd hY hL hok hs hc hn hr hk hw hst (fun _ _ => rfl) k
def pm_cp (μ : pm_M) (j0 j1 N : Nat) : pm_M := pm_row μ j1 (va_cpy (μ j0) (μ j1) 0 0 N)
theorem pv_copy {j0 j1 n0' n1' N : Nat} {nn : Int32} (hd : decode cc pc = .ok (.invokestatic idx, 3)) (hL : Cond.methodLink own idx arraycopyName ∈ pm_T) (hL2 : Cond.native arraycopyName ∈ pm_T) (hL3 : Cond.static arraycopyName ∈ pm_T) (hL4 : Cond.initialized "java/lang/System" ∈ pm_T) (hs0 : sh[j0]? = some (.inl (0, n0'))) (hs1 : sh[j1]? = some (.inl (0, n1'))) (hn0 : ¬ nn < 0) (hN : nn.toNatClampNeg = N) (hN0 : N ≤ n0') (hN1 : N ≤ n1') (hf : 1 ≤ R.frames) (hlo : (st.map fun v => v.category).sum + 18 ≤ R.locals)
    (k : pm_V l cc own nL ret R g shE mc ms fin sh kc ks (pc + 3) ls st (pm_cp μ j0 j1 N) o) : pm_V l cc own nL ret R g shE mc ms fin sh kc ks pc ls (.int nn :: .int 0 :: .ref j1 :: .int 0 :: .ref j0 :: st) μ o := by
  intro z hz p e s m args below meth c D cA ad ad0 n0 A H locs la h1 h2 h3 h4 h5 h6 h7 h8
  have hts := h1.2.2.2.2.2.2.1
  subst hN
  have hcat : (st.map (pm_v ad)).map (fun v => v.category) = st.map (fun v => v.category) := by
    rw [List.map_map]; exact List.map_congr_left (fun v _ => pm_cat ad v)
  refine va_copyi (sp := 0) (dp := 0) (ty := .int) h1.1 h1.2.1 (h1.2.2.1.trans h8.1.symm) h1.2.2.2.1 (hts _ hL) (hts _ hL2) (hts _ hL3) (hts _ hL4) h1.2.2.2.2.2.2.2 h5 h6 h7 j0 j1 0 0 (pm_w_get0 hs0) (pm_w_get0 hs1) rfl rfl rfl (by decide) (by decide) hn0 (by show 0 + _ ≤ _; omega) (by show 0 + _ ≤ _; omega) (fun _ _ => rfl) hf (by rw [hcat]; exact hlo) hd (fun H1 locs1 hP hD hS => ?_)
  have e1 : (pm_w ad cA μ 0 sh).set j1 (ad j1, .inl (cA 0, n1', .inl (va_cpy (μ j0) (μ j1) 0 0 nn.toNatClampNeg))) = pm_w ad cA (pm_cp μ j0 j1 nn.toNatClampNeg) 0 sh := pm_w_set0 (g := va_cpy (μ j0) (μ j1) 0 0 nn.toNatClampNeg) hs1
  have hP : va_P D vwCl (pm_w ad cA (pm_cp μ j0 j1 nn.toNatClampNeg) 0 sh) H1 := by rw [← e1]; exact hP
  have hD : va_D A (pm_w ad cA (pm_cp μ j0 j1 nn.toNatClampNeg) 0 sh) := by rw [← e1]; exact hD
  exact k z hz p e s m args below meth c D cA ad ad0 n0 A H1 locs1 la h1 h2 h3 h4 hP hD hS h8
theorem pv_lcmp {x y : Int64} (hd : decode cc pc = .ok (.lcmp, 1)) (k : pm_V l cc own nL ret R g shE mc ms fin sh kc ks (pc + 1) ls (.int (lg_cmp x y) :: st) μ o) : pm_V l cc own nL ret R g shE mc ms fin sh kc ks pc ls (.long y :: .long x :: st) μ o := by
  intro z hz p e s m args below meth c D cA ad ad0 n0 A H locs la h1 h2 h3 h4 h5 h6 h7 h8
  exact W.lcmp h1.1 h1.2.1 hd (k z hz p e s m args below meth c D cA ad ad0 n0 A H locs la h1 h2 h3 h4 h5 h6 h7 h8)
/-! switches -/
def pm_sw {τ : Type} (x : Int32) : List Int32 → List (Option τ) → Option τ → Option τ
  | a :: as, b :: bs, d => if x = a then b else pm_sw x as bs d
  | _, _, d => d
def pm_all2 {τ : Type} (P : Nat → Option τ → Prop) : List Nat → List (Option τ) → Prop
  | t :: ts, b :: bs => P t b ∧ pm_all2 P ts bs
  | [], [] => True
  | _, _ => False
theorem pm_sw_at {τ : Type} {x : Int32} {P : Nat → Option τ → Prop} {d : Option τ} : ∀ (ks : List Int32) (ts : List Nat) (bs : List (Option τ)), ks.length = ts.length → pm_all2 P ts bs → (∃ i t : Nat, ks[i]? = some x ∧ ts[i]? = some t ∧ (∀ j : Nat, j < i → ks[j]? ≠ some x) ∧ P t (pm_sw x ks bs d)) ∨ ((∀ i : Nat, ks[i]? ≠ some x) ∧ pm_sw x ks bs d = d)
  | [], [], [], _, _ => Or.inr ⟨fun i h => by simp at h, rfl⟩
  | a :: as, t :: ts, b :: bs, hl, h => by
    by_cases hx : x = a
    · refine Or.inl ⟨0, t, by rw [hx]; rfl, rfl, fun j hj => by omega, ?_⟩
      show P t (if x = a then b else _)
      rw [if_pos hx]
      exact h.1
    · have e : pm_sw x (a :: as) (b :: bs) d = pm_sw x as bs d := by show (if x = a then b else _) = _; rw [if_neg hx]
      rw [e]
      rcases pm_sw_at (d := d) as ts bs (by simpa using hl) h.2 with ⟨i, t', h1, h2, h3, h4⟩ | ⟨h1, h2⟩
      · refine Or.inl ⟨i + 1, t', h1, h2, fun j hj => ?_, h4⟩
        cases j with
        | zero => rw [List.getElem?_cons_zero]; exact fun q => hx (Option.some.inj q).symm
        | succ j => rw [List.getElem?_cons_succ]; exact h3 j (by omega)
      · refine Or.inr ⟨fun i => ?_, h2⟩
        cases i with
        | zero => rw [List.getElem?_cons_zero]; exact fun q => hx (Option.some.inj q).symm
        | succ j => rw [List.getElem?_cons_succ]; exact h1 j
  | [], [], _ :: _, _, h => absurd h (by simp [pm_all2])
  | [], _ :: _, _, hl, _ => by simp at hl
  | _ :: _, [], _, hl, _ => by simp at hl
  | _ :: _, _ :: _, [], _, h => absurd h (by simp [pm_all2])
theorem pm_look {x : Int32} {d : Int} {pc : Nat} : ∀ (ks : List Int32) (ts : List Nat), ks.length = ts.length → (∀ i t : Nat, ks[i]? = some x → ts[i]? = some t → (∀ j : Nat, j < i → ks[j]? ≠ some x) → Op.lookupswitch.offset ((ks.map Int32.toInt).zip (ts.map (fun t : Nat => (t : Int) - (pc : Int)))) d x.toInt = (t : Int) - pc) ∧ ((∀ i : Nat, ks[i]? ≠ some x) → Op.lookupswitch.offset ((ks.map Int32.toInt).zip (ts.map (fun t : Nat => (t : Int) - (pc : Int)))) d x.toInt = d)
  | [], [], _ => ⟨fun i t h => by simp at h, fun _ => rfl⟩
  | a :: as, t :: ts, hl => by
    obtain ⟨i1, i2⟩ := pm_look (x := x) (d := d) (pc := pc) as ts (by simpa using hl)
    have e : ((a :: as).map Int32.toInt).zip ((t :: ts).map (fun t : Nat => (t : Int) - (pc : Int))) = (a.toInt, (t : Int) - pc) :: (as.map Int32.toInt).zip (ts.map (fun t : Nat => (t : Int) - (pc : Int))) := rfl
    rw [e]
    refine ⟨fun i t' h1 h2 h3 => ?_, fun h => ?_⟩
    · cases i with
      | zero =>
        rw [List.getElem?_cons_zero] at h1 h2
        cases h1
        cases h2
        rw [Op.lookupswitch.offset_cons, if_pos rfl]
      | succ i =>
        have hne : ¬ x = a := fun q => h3 0 (by omega) (by rw [q]; rfl)
        rw [lv_osw hne rfl]
        rw [List.getElem?_cons_succ] at h1 h2
        exact i1 i t' h1 h2 (fun j hj => h3 (j + 1) (by omega))
    · have hne : ¬ x = a := fun q => h 0 (by rw [q]; rfl)
      rw [lv_osw hne rfl]
      exact i2 (fun i => h (i + 1))
  | [], _ :: _, hl => by simp at hl
  | _ :: _, [], hl => by simp at hl
theorem pv_lookup {x : Int32} {dflt : Int} {ps : Array (Int × Int)} {len tD : Nat} {kys : List Int32} {ts : List Nat} {bs : List (Option τ)} {od : Option τ} (hd : decode cc pc = .ok (.lookupswitch dflt ps, len)) (hp : (ps.toList.zip (ps.toList.drop 1)).all (fun (a, next) => a.1 < next.1) = true) (hl : kys.length = ts.length) (hps : ps.toList = (kys.map Int32.toInt).zip (ts.map (fun t : Nat => (t : Int) - (pc : Int)))) (hD : (pc : Int) + dflt = (tD : Int))
    (k : pm_all2 (fun t b => pm_V l cc own nL ret R g shE mc ms fin sh kc ks t ls st μ b) ts bs) (kd : pm_V l cc own nL ret R g shE mc ms fin sh kc ks tD ls st μ od) : pm_V l cc own nL ret R g shE mc ms fin sh kc ks pc ls (.int x :: st) μ (pm_sw x kys bs od) := by
  rcases pm_sw_at (x := x) (d := od) kys ts bs hl k with ⟨i, t, a1, a2, a3, a4⟩ | ⟨a1, a2⟩
  · intro z hz p e s m args below meth c D cA ad ad0 n0 A H locs la h1 h2 h3 h4 h5 h6 h7 h8
    exact lv_lookup h1.1 h1.2.1 hd hp (off := (t : Int) - pc) (tgt := t) (by rw [hps]; exact (pm_look kys ts hl).1 i t a1 a2 a3) (by omega) (a4 z hz p e s m args below meth c D cA ad ad0 n0 A H locs la h1 h2 h3 h4 h5 h6 h7 h8)
  · rw [a2]
    intro z hz p e s m args below meth c D cA ad ad0 n0 A H locs la h1 h2 h3 h4 h5 h6 h7 h8
    exact lv_lookup h1.1 h1.2.1 hd hp (off := dflt) (tgt := tD) (by rw [hps]; exact (pm_look kys ts hl).2 a1) hD (kd z hz p e s m args below meth c D cA ad ad0 n0 A H locs la h1 h2 h3 h4 h5 h6 h7 h8)
theorem pv_table {x : Int32} {dflt lo hi : Int} {offs : Array Int} {len tD : Nat} {kys : List Int32} {ts : List Nat} {bs : List (Option τ)} {od : Option τ} (hd : decode cc pc = .ok (.tableswitch dflt lo hi offs, len)) (hl : kys.length = ts.length) (hks : kys.map Int32.toInt = (List.range kys.length).map (fun i : Nat => lo + (i : Int))) (hhi : hi + 1 = lo + (kys.length : Int)) (hof : offs.toList = ts.map (fun t : Nat => (t : Int) - (pc : Int))) (hD : (pc : Int) + dflt = (tD : Int))
    (k : pm_all2 (fun t b => pm_V l cc own nL ret R g shE mc ms fin sh kc ks t ls st μ b) ts bs) (kd : pm_V l cc own nL ret R g shE mc ms fin sh kc ks tD ls st μ od) : pm_V l cc own nL ret R g shE mc ms fin sh kc ks pc ls (.int x :: st) μ (pm_sw x kys bs od) := by
  have key : ∀ (i : Nat) (a : Int32), kys[i]? = some a → a.toInt = lo + (i : Int) := by
    intro i a h
    have h2 : (kys.map Int32.toInt)[i]? = some a.toInt := by rw [List.getElem?_map, h]; rfl
    rw [hks, List.getElem?_map, List.getElem?_range (List.getElem?_eq_some_iff.mp h).1] at h2
    exact (Option.some.inj h2).symm
  rcases pm_sw_at (x := x) (d := od) kys ts bs hl k with ⟨i, t, a1, a2, a3, a4⟩ | ⟨a1, a2⟩
  · intro z hz p e s m args below meth c D cA ad ad0 n0 A H locs la h1 h2 h3 h4 h5 h6 h7 h8
    have hx := key i x a1
    have hi := (List.getElem?_eq_some_iff.mp a1).1
    refine lv_tableIn h1.1 h1.2.1 hd (off := (t : Int) - pc) (tgt := t) (by omega) (by omega) ?_ (by omega) (a4 z hz p e s m args below meth c D cA ad ad0 n0 A H locs la h1 h2 h3 h4 h5 h6 h7 h8)
    rw [← Array.getElem?_toList, hof, List.getElem?_map, show (x.toInt - lo).toNat = i by omega, a2]
    rfl
  · rw [a2]
    intro z hz p e s m args below meth c D cA ad ad0 n0 A H locs la h1 h2 h3 h4 h5 h6 h7 h8
    refine lv_tableOut h1.1 h1.2.1 hd (tgt := tD) ?_ hD (kd z hz p e s m args below meth c D cA ad ad0 n0 A H locs la h1 h2 h3 h4 h5 h6 h7 h8)
    by_cases q : x.toInt < lo ∨ hi < x.toInt
    · exact q
    · exfalso
      have hlt : (x.toInt - lo).toNat < kys.length := by omega
      have h9 := key _ _ (List.getElem?_eq_getElem hlt)
      have h10 : kys[(x.toInt - lo).toNat] = x := Int32.toInt_inj.mp (by rw [h9]; omega)
      exact a1 _ (by rw [List.getElem?_eq_getElem hlt, h10])
def pm_FPn (own : String) (idx ci k : Nat) (ty : FieldType) : Prop := ∃ (C : String) (T : u_T) (N : Nat) (ty0 : Nat → FieldType) (host : String), (∀ w ∈ u_ws C T N, w ∈ pm_T) ∧ vwCl[ci]? = some (C, T, N) ∧ k < N ∧ Cond.fieldLinkNest own idx (T k).1 (T k).2.1 (T k).2.2.1 host ∈ pm_T ∧ (∀ k, k < N → parseFieldDescriptor (T k).2.2.1 = some (ty0 k)) ∧ (∀ a, a < N → ∀ b, b < N → a ≠ b → (T a).2.1 ≠ (T b).2.1) ∧ (T k).2.2.2 = false ∧ parseFieldDescriptor (T k).2.2.1 = some ty
theorem pv_putn {ci k0 j : Nat} {fs : List (Option Value)} {ty : FieldType} {x : Int32} (hd : decode cc pc = .ok (.putfield idx, 3)) (hF : pm_FPn own idx ci k0 ty) (hs : sh[j]? = some (.inr (ci, fs))) (hf : fs[k0]? = some none) (hn : narrow ty (.int x) = .int x) (hfit : fits ty (.int x) = true) (k : pm_V l cc own nL ret R g shE mc ms fin sh kc ks (pc + 3) ls st (pm_up μ j k0 x) o) : pm_V l cc own nL ret R g shE mc ms fin sh kc ks pc ls (.int x :: .ref j :: st) μ o := by
  intro z hz p e s m args below meth c D cA ad ad0 n0 A H locs la h1 h2 h3 h4 h5 h6 h7 h8
  obtain ⟨C, T, N, ty0, host, f1, f2, f3, f4, f5, f6, f7, f8⟩ := hF
  refine va_putN h1.1 h1.2.1 h1.2.2.2.2.2.2.1 f1 ty0 f5 f6 h1.2.2.2.1 h1.2.2.2.2.2.2.2 h5 h6 h7 j (pm_w_get0 hs) f2 k0 f3 (h1.2.2.2.2.2.2.1 _ f4) (fun _ h => h) f7 f8 hn hfit (by rw [pm_f_len]; exact (List.getElem?_eq_some_iff.mp hf).1) hd (fun H1 locs1 hP hD hS => ?_)
  have e1 : (pm_w ad cA μ 0 sh).set j (ad j, .inr (ci, (pm_f ad (μ j) 0 fs).set k0 (.int x))) = pm_w ad cA (pm_up μ j k0 x) 0 sh := by
    rw [pm_f_int fs (μ j) 0 k0 hf, Nat.zero_add]
    exact pm_w_set0 (g := upd (μ j) k0 x) hs
  have hP : va_P D vwCl (pm_w ad cA (pm_up μ j k0 x) 0 sh) H1 := by rw [← e1]; exact hP
  have hD : va_D A (pm_w ad cA (pm_up μ j k0 x) 0 sh) := by rw [← e1]; exact hD
  exact k z hz p e s m args below meth c D cA ad ad0 n0 A H1 locs1 la h1 h2 h3 h4 hP hD hS h8
end PMC
