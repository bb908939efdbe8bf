/-! THE JUDGEMENT. pm_V .. pc ls st μ o: the machine at pc, with locals ls, stack st and numbers μ, comes to the method's end with what 'o' says, if 'o' says something ('fin': what is returned, and the numbers then). -/
def pm_okw : Cond → Bool
  | .fieldLinkNest .. => true
  | .methodLinkNest .. => true
  | w => goodWord w
/-- the words of the tables that every state that comes keeps -/
def pm_T : List Cond := lw_tbl.filter pm_okw
theorem pm_in {w : Cond} (h : w ∈ lw_tbl) (hk : pm_okw w = true) : w ∈ pm_T := List.mem_filter.mpr ⟨h, hk⟩
def pm_ty (cA : Nat → ClassId) : List (ClassId × FieldType) := [(cA 0, .int), (cA 1, .boolean)]
def pm_At (cc : ByteArray) (own : String) (nL : Nat) (ret : Option FieldType) (D : va_G) (cA : Nat → ClassId) (p : Program) (s : State) (m : MethodId) (args : Array Value) (meth : Method) (c : Code) : Prop :=
  p.tables.exec = Jvm.exec ∧ c.code = cc ∧ c.maxLocals = nL ∧ s.vm.findClass own = some m.cls ∧ meth.sig.returnType = ret ∧ meth.locks = false ∧ (∀ w ∈ pm_T, w.before args s = true) ∧ va_K D vwCl (pm_ty cA) s
def pm_Q (D : va_G) (cA : Nat → ClassId) (ad : Nat → Nat) (n0 : Nat) (sh : pm_S) (rv : Option Value) (μ : pm_M) (A : Nat → Prop) : Array Value → State → Outcome → State → Prop := fun _ st oc t =>
  (oc = .returned rv ∧ ∃ ad' : Nat → Nat, (∀ i, i < n0 → ad' i = ad i) ∧ va_P D vwCl (pm_w ad' cA μ 0 sh) t.heap ∧ va_D A (pm_w ad' cA μ 0 sh)) ∧ va_F A st t
def pm_V {τ : Type} (l : Launch) (cc : ByteArray) (own : String) (nL : Nat) (ret : Option FieldType) (R : Room) (g : Bool) (shE : pm_S) (mc ms : Nat) (fin : τ → Option Value × pm_M) (sh : pm_S) (kc ks : Nat) (pc : Nat) (ls : List (Option Value)) (st : List Value) (μ : pm_M) (o : Option τ) : Prop :=
  ∀ x, o = some x → ∀ (p : Program) (e : Env) (s : State) (m : MethodId) (args : Array Value) (below : List Frame) (meth : Method) (c : Code) (D : va_G) (cA : Nat → ClassId) (ad ad0 : Nat → Nat) (n0 : Nat) (A : Nat → Prop) (H : Heap) (locs : List Loc) (la : Array Slot),
    pm_At cc own nL ret D cA p s m args meth c → (∀ i, i < n0 → ad i = ad0 i) → (g = true → n0 ≤ sh.length ∧ meth.name = "<init>") → (∀ q, s.heap.size ≤ q → A q) → va_P D vwCl (pm_w ad cA μ 0 sh) H → va_D A (pm_w ad cA μ 0 sh) → va_S A s.heap H locs → lv_has la nL (pm_l ad 0 ls) →
    W p l e R s m args below meth c H locs kc ks (MQ below (pm_Q D cA ad0 n0 shE (fin x).1 (fin x).2 A) args s mc ms A) (F0 m pc la (st.map (pm_v ad)))
def pm_let {α τ : Type} (x : α) (k : α → Option τ) : Option τ := k x
def pm_ck {τ : Type} (i : Int32) (n : Nat) (o : Option τ) : Option τ := if i < 0 ∨ n ≤ i.toNatClampNeg then none else o
def pm_rem (x y : Int32) : Int32 := x - x / y * y
def pm_lrem (x y : Int64) : Int64 := x - x / y * y
def pm_it {σ ε τ : Type} (body : σ → (σ → Option τ) → (ε → Option τ) → Option τ) : Nat → σ → (ε → Option τ) → Option τ
  | 0, _, _ => none
  | n + 1, v, kE => body v (fun v' => pm_it body n v' kE) kE
def pm_jn {α τ : Type} (J : α → Option τ) (T : (α → Option τ) → Option τ) : Option τ := T J
section PMR
variable {τ : Type} {l : Launch} {cc : ByteArray} {own : String} {nL : Nat} {ret : Option FieldType} {R : Room} {g : Bool} {shE : pm_S} {mc ms : Nat} {fin : τ → Option Value × pm_M} {sh : pm_S} {kc ks pc : Nat} {ls : List (Option Value)} {st : List Value} {μ : pm_M} {o o1 o2 : Option τ}
theorem pv_iconst {n : Int} {v : Int32} (hd : decode cc pc = .ok (.iconst n, 1)) (hv : Int32.ofInt n = v) (k : pm_V l cc own nL ret R g shE mc ms fin sh kc ks (pc + 1) ls (.int v :: st) μ o) : pm_V l cc own nL ret R g shE mc ms fin sh kc ks pc ls (st) μ o := by
  intro z hz p e s m args below meth c D cA ad ad0 n0 A H locs la h1 h2 h3 h4 h5 h6 h7 h8
  exact lv_iconst h1.1 h1.2.1 hd hv (k z hz p e s m args below meth c D cA ad ad0 n0 A H locs la h1 h2 h3 h4 h5 h6 h7 h8)
theorem pv_bipush {n : Int} {v : Int32} (hd : decode cc pc = .ok (.bipush n, 2)) (hv : (Int8.ofInt n).toInt32 = v) (k : pm_V l cc own nL ret R g shE mc ms fin sh kc ks (pc + 2) ls (.int v :: st) μ o) : pm_V l cc own nL ret R g shE mc ms fin sh kc ks pc ls (st) μ o := by
  intro z hz p e s m args below meth c D cA ad ad0 n0 A H locs la h1 h2 h3 h4 h5 h6 h7 h8
  exact lv_bipush h1.1 h1.2.1 hd hv (k z hz p e s m args below meth c D cA ad ad0 n0 A H locs la h1 h2 h3 h4 h5 h6 h7 h8)
theorem pv_sipush {n : Int} {v : Int32} (hd : decode cc pc = .ok (.sipush n, 3)) (hv : (Int16.ofInt n).toInt32 = v) (k : pm_V l cc own nL ret R g shE mc ms fin sh kc ks (pc + 3) ls (.int v :: st) μ o) : pm_V l cc own nL ret R g shE mc ms fin sh kc ks pc ls (st) μ o := by
  intro z hz p e s m args below meth c D cA ad ad0 n0 A H locs la h1 h2 h3 h4 h5 h6 h7 h8
  exact lv_sipush h1.1 h1.2.1 hd hv (k z hz p e s m args below meth c D cA ad ad0 n0 A H locs la h1 h2 h3 h4 h5 h6 h7 h8)
theorem pv_lconst {n : Fin 2} {v : Int64} (hd : decode cc pc = .ok (.lconst n, 1)) (hv : Int64.ofNat (n : Nat) = v) (k : pm_V l cc own nL ret R g shE mc ms fin sh kc ks (pc + 1) ls (.long v :: st) μ o) : pm_V l cc own nL ret R g shE mc ms fin sh kc ks pc ls (st) μ o := by
  intro z hz p e s m args below meth c D cA ad ad0 n0 A H locs la h1 h2 h3 h4 h5 h6 h7 h8
  exact lv_lconst h1.1 h1.2.1 hd hv (k z hz p e s m args below meth c D cA ad ad0 n0 A H locs la h1 h2 h3 h4 h5 h6 h7 h8)
theorem pv_ldc {index : Nat} {v : Int32} (hd : decode cc pc = .ok (.ldc index, 2)) (hc : Cond.constant own index v ∈ pm_T) (k : pm_V l cc own nL ret R g shE mc ms fin sh kc ks (pc + 2) ls (.int v :: st) μ o) : pm_V l cc own nL ret R g shE mc ms fin sh kc ks pc ls (st) μ o := by
  intro z hz p e s m args below meth c D cA ad ad0 n0 A H locs la h1 h2 h3 h4 h5 h6 h7 h8
  exact lv_ldc h1.1 h1.2.1 h1.2.2.2.1 (h1.2.2.2.2.2.2.1 _ hc) hd (k z hz p e s m args below meth c D cA ad ad0 n0 A H locs la h1 h2 h3 h4 h5 h6 h7 h8)
theorem pv_ldcw {index : Nat} {v : Int32} (hd : decode cc pc = .ok (.ldc_w index, 3)) (hc : Cond.constant own index v ∈ pm_T) (k : pm_V l cc own nL ret R g shE mc ms fin sh kc ks (pc + 3) ls (.int v :: st) μ o) : pm_V l cc own nL ret R g shE mc ms fin sh kc ks pc ls (st) μ o := by
  intro z hz p e s m args below meth c D cA ad ad0 n0 A H locs la h1 h2 h3 h4 h5 h6 h7 h8
  exact lv_ldcw h1.1 h1.2.1 h1.2.2.2.1 (h1.2.2.2.2.2.2.1 _ hc) hd (k z hz p e s m args below meth c D cA ad ad0 n0 A H locs la h1 h2 h3 h4 h5 h6 h7 h8)
theorem pv_ldc2 {index : Nat} {v : Int64} (hd : decode cc pc = .ok (.ldc2_w index, 3)) (hc : Cond.constantLong own index v ∈ pm_T) (k : pm_V l cc own nL ret R g shE mc ms fin sh kc ks (pc + 3) ls (.long v :: st) μ o) : pm_V l cc own nL ret R g shE mc ms fin sh kc ks pc ls (st) μ o := by
  intro z hz p e s m args below meth c D cA ad ad0 n0 A H locs la h1 h2 h3 h4 h5 h6 h7 h8
  exact lv_ldc2 h1.1 h1.2.1 h1.2.2.2.1 (h1.2.2.2.2.2.2.1 _ hc) hd (k z hz p e s m args below meth c D cA ad ad0 n0 A H locs la h1 h2 h3 h4 h5 h6 h7 h8)
theorem pv_iload_n {i : Fin 4} {x : Int32} (hd : decode cc pc = .ok (.iload_n i, 1)) (hl : ls[(i : Nat)]? = some (some (.int x))) (k : pm_V l cc own nL ret R g shE mc ms fin sh kc ks (pc + 1) ls (.int x :: st) μ o) : pm_V l cc own nL ret R g shE mc ms fin sh kc ks pc ls (st) μ o := by
  intro z hz p e s m args below meth c D cA ad ad0 n0 A H locs la h1 h2 h3 h4 h5 h6 h7 h8
  exact lv_iload_n h1.1 h1.2.1 hd rfl (pm_l_at h8 hl) (k z hz p e s m args below meth c D cA ad ad0 n0 A H locs la h1 h2 h3 h4 h5 h6 h7 h8)
theorem pv_iload {i : Nat} {x : Int32} (hd : decode cc pc = .ok (.iload i, 2)) (hl : ls[i]? = some (some (.int x))) (k : pm_V l cc own nL ret R g shE mc ms fin sh kc ks (pc + 2) ls (.int x :: st) μ o) : pm_V l cc own nL ret R g shE mc ms fin sh kc ks pc ls (st) μ o := by
  intro z hz p e s m args below meth c D cA ad ad0 n0 A H locs la h1 h2 h3 h4 h5 h6 h7 h8
  exact lv_iload h1.1 h1.2.1 hd (pm_l_at h8 hl) (k z hz p e s m args below meth c D cA ad ad0 n0 A H locs la h1 h2 h3 h4 h5 h6 h7 h8)
theorem pv_lload_n {i : Fin 4} {x : Int64} (hd : decode cc pc = .ok (.lload_n i, 1)) (hl : ls[(i : Nat)]? = some (some (.long x))) (k : pm_V l cc own nL ret R g shE mc ms fin sh kc ks (pc + 1) ls (.long x :: st) μ o) : pm_V l cc own nL ret R g shE mc ms fin sh kc ks pc ls (st) μ o := by
  intro z hz p e s m args below meth c D cA ad ad0 n0 A H locs la h1 h2 h3 h4 h5 h6 h7 h8
  exact lv_lload_n h1.1 h1.2.1 hd rfl (pm_l_at h8 hl) (k z hz p e s m args below meth c D cA ad ad0 n0 A H locs la h1 h2 h3 h4 h5 h6 h7 h8)
theorem pv_lload {i : Nat} {x : Int64} (hd : decode cc pc = .ok (.lload i, 2)) (hl : ls[i]? = some (some (.long x))) (k : pm_V l cc own nL ret R g shE mc ms fin sh kc ks (pc + 2) ls (.long x :: st) μ o) : pm_V l cc own nL ret R g shE mc ms fin sh kc ks pc ls (st) μ o := by
  intro z hz p e s m args below meth c D cA ad ad0 n0 A H locs la h1 h2 h3 h4 h5 h6 h7 h8
  exact lv_lload h1.1 h1.2.1 hd (pm_l_at h8 hl) (k z hz p e s m args below meth c D cA ad ad0 n0 A H locs la h1 h2 h3 h4 h5 h6 h7 h8)
theorem pv_aload_n {i : Fin 4} {x : Nat} (hd : decode cc pc = .ok (.aload_n i, 1)) (hl : ls[(i : Nat)]? = some (some (.ref x))) (k : pm_V l cc own nL ret R g shE mc ms fin sh kc ks (pc + 1) ls (.ref x :: st) μ o) : pm_V l cc own nL ret R g shE mc ms fin sh kc ks pc ls (st) μ o := by
  intro z hz p e s m args below meth c D cA ad ad0 n0 A H locs la h1 h2 h3 h4 h5 h6 h7 h8
  exact lv_aload_n h1.1 h1.2.1 hd rfl (pm_l_at h8 hl) (k z hz p e s m args below meth c D cA ad ad0 n0 A H locs la h1 h2 h3 h4 h5 h6 h7 h8)
theorem pv_aload {i : Nat} {x : Nat} (hd : decode cc pc = .ok (.aload i, 2)) (hl : ls[i]? = some (some (.ref x))) (k : pm_V l cc own nL ret R g shE mc ms fin sh kc ks (pc + 2) ls (.ref x :: st) μ o) : pm_V l cc own nL ret R g shE mc ms fin sh kc ks pc ls (st) μ o := by
  intro z hz p e s m args below meth c D cA ad ad0 n0 A H locs la h1 h2 h3 h4 h5 h6 h7 h8
  exact lv_aload h1.1 h1.2.1 hd (pm_l_at h8 hl) (k z hz p e s m args below meth c D cA ad ad0 n0 A H locs la h1 h2 h3 h4 h5 h6 h7 h8)
theorem pv_istore_n {i : Fin 4} {x : Int32} {ls' : List (Option Value)} (hd : decode cc pc = .ok (.istore_n i, 1)) (hn : (i : Nat) < nL) (hl : pm_st1 ls (i : Nat) (.int x) = ls') (k : pm_V l cc own nL ret R g shE mc ms fin sh kc ks (pc + 1) ls' st μ o) : pm_V l cc own nL ret R g shE mc ms fin sh kc ks pc ls (.int x :: st) μ o := by
  intro z hz p e s m args below meth c D cA ad ad0 n0 A H locs la h1 h2 h3 h4 h5 h6 h7 h8
  subst hl
  refine lv_istore_n (lv := pm_l ad 0 ls) (lv' := _) h1.1 h1.2.1 hd rfl h8 hn rfl (fun la' hla => k z hz p e s m args below meth c D cA ad ad0 n0 A H locs la' h1 h2 h3 h4 h5 h6 h7 ⟨hla.1, hla.2.1, fun q hq => hla.2.2 q ?_⟩)
  exact pm_st1_mem hq
theorem pv_istore {i : Nat} {x : Int32} {ls' : List (Option Value)} (hd : decode cc pc = .ok (.istore i, 2)) (hn : i < nL) (hl : pm_st1 ls i (.int x) = ls') (k : pm_V l cc own nL ret R g shE mc ms fin sh kc ks (pc + 2) ls' st μ o) : pm_V l cc own nL ret R g shE mc ms fin sh kc ks pc ls (.int x :: st) μ o := by
  intro z hz p e s m args below meth c D cA ad ad0 n0 A H locs la h1 h2 h3 h4 h5 h6 h7 h8
  subst hl
  refine lv_istore (lv := pm_l ad 0 ls) (lv' := _) h1.1 h1.2.1 hd h8 hn rfl (fun la' hla => k z hz p e s m args below meth c D cA ad ad0 n0 A H locs la' h1 h2 h3 h4 h5 h6 h7 ⟨hla.1, hla.2.1, fun q hq => hla.2.2 q ?_⟩)
  exact pm_st1_mem hq
theorem pv_lstore_n {i : Fin 4} {x : Int64} {ls' : List (Option Value)} (hd : decode cc pc = .ok (.lstore_n i, 1)) (hn : (i : Nat) + 1 < nL) (hl : pm_st2 ls (i : Nat) (.long x) = ls') (k : pm_V l cc own nL ret R g shE mc ms fin sh kc ks (pc + 1) ls' st μ o) : pm_V l cc own nL ret R g shE mc ms fin sh kc ks pc ls (.long x :: st) μ o := by
  intro z hz p e s m args below meth c D cA ad ad0 n0 A H locs la h1 h2 h3 h4 h5 h6 h7 h8
  subst hl
  refine lv_lstore_n (lv := pm_l ad 0 ls) (lv' := _) h1.1 h1.2.1 hd rfl h8 hn rfl (fun la' hla => k z hz p e s m args below meth c D cA ad ad0 n0 A H locs la' h1 h2 h3 h4 h5 h6 h7 ⟨hla.1, hla.2.1, fun q hq => hla.2.2 q ?_⟩)
  exact pm_st2_mem hq
theorem pv_lstore {i : Nat} {x : Int64} {ls' : List (Option Value)} (hd : decode cc pc = .ok (.lstore i, 2)) (hn : i + 1 < nL) (hl : pm_st2 ls i (.long x) = ls') (k : pm_V l cc own nL ret R g shE mc ms fin sh kc ks (pc + 2) ls' st μ o) : pm_V l cc own nL ret R g shE mc ms fin sh kc ks pc ls (.long x :: st) μ o := by
  intro z hz p e s m args below meth c D cA ad ad0 n0 A H locs la h1 h2 h3 h4 h5 h6 h7 h8
  subst hl
  refine lv_lstore (lv := pm_l ad 0 ls) (lv' := _) h1.1 h1.2.1 hd h8 hn rfl (fun la' hla => k z hz p e s m args below meth c D cA ad ad0 n0 A H locs la' h1 h2 h3 h4 h5 h6 h7 ⟨hla.1, hla.2.1, fun q hq => hla.2.2 q ?_⟩)
  exact pm_st2_mem hq
theorem pv_astore_n {i : Fin 4} {x : Nat} {ls' : List (Option Value)} (hd : decode cc pc = .ok (.astore_n i, 1)) (hn : (i : Nat) < nL) (hl : pm_st1 ls (i : Nat) (.ref x) = ls') (k : pm_V l cc own nL ret R g shE mc ms fin sh kc ks (pc + 1) ls' st μ o) : pm_V l cc own nL ret R g shE mc ms fin sh kc ks pc ls (.ref x :: st) μ o := by
  intro z hz p e s m args below meth c D cA ad ad0 n0 A H locs la h1 h2 h3 h4 h5 h6 h7 h8
  subst hl
  refine lv_astore_n (lv := pm_l ad 0 ls) (lv' := _) h1.1 h1.2.1 hd rfl h8 hn rfl (fun la' hla => k z hz p e s m args below meth c D cA ad ad0 n0 A H locs la' h1 h2 h3 h4 h5 h6 h7 ⟨hla.1, hla.2.1, fun q hq => hla.2.2 q ?_⟩)
  exact pm_st1_mem hq
theorem pv_astore {i : Nat} {x : Nat} {ls' : List (Option Value)} (hd : decode cc pc = .ok (.astore i, 2)) (hn : i < nL) (hl : pm_st1 ls i (.ref x) = ls') (k : pm_V l cc own nL ret R g shE mc ms fin sh kc ks (pc + 2) ls' st μ o) : pm_V l cc own nL ret R g shE mc ms fin sh kc ks pc ls (.ref x :: st) μ o := by
  intro z hz p e s m args below meth c D cA ad ad0 n0 A H locs la h1 h2 h3 h4 h5 h6 h7 h8
  subst hl
  refine lv_astore (lv := pm_l ad 0 ls) (lv' := _) h1.1 h1.2.1 hd h8 hn rfl (fun la' hla => k z hz p e s m args below meth c D cA ad ad0 n0 A H locs la' h1 h2 h3 h4 h5 h6 h7 ⟨hla.1, hla.2.1, fun q hq => hla.2.2 q ?_⟩)
  exact pm_st1_mem hq
theorem pv_iinc {i : Nat} {n : Int} {x v : Int32} {ls' : List (Option Value)} (hd : decode cc pc = .ok (.iinc i n, 3)) (hi : ls[i]? = some (some (.int x))) (hv : x + Int32.ofInt n = v) (hn : i < nL) (hl : pm_st1 ls i (.int v) = ls') (k : pm_V l cc own nL ret R g shE mc ms fin sh kc ks (pc + 3) ls' st μ o) : pm_V l cc own nL ret R g shE mc ms fin sh kc ks pc ls st μ o := by
  intro z hz p e s m args below meth c D cA ad ad0 n0 A H locs la h1 h2 h3 h4 h5 h6 h7 h8
  subst hl
  have hm := (pm_l_mem (ad := ad) ls 0 (i, pm_v ad (.int x))).mpr ⟨i, _, hi, by rw [Nat.zero_add]⟩
  obtain ⟨kk, hkk⟩ := List.getElem?_of_mem hm
  refine lv_iinc (lv := pm_l ad 0 ls) (lv' := _) h1.1 h1.2.1 hd h8 hkk hv hn rfl (fun la' hla => k z hz p e s m args below meth c D cA ad ad0 n0 A H locs la' h1 h2 h3 h4 h5 h6 h7 ⟨hla.1, hla.2.1, fun q hq => hla.2.2 q ?_⟩)
  exact pm_st1_mem hq
theorem pv_iadd {x y : Int32} (hd : decode cc pc = .ok (.iadd, 1)) (k : pm_V l cc own nL ret R g shE mc ms fin sh kc ks (pc + 1) ls (.int (x + y) :: st) μ o) : pm_V l cc own nL ret R g shE mc ms fin sh kc ks pc ls (.int y :: .int x :: st) μ o := by
  intro z hz p e s m args below meth c D cA ad ad0 n0 A H locs la h1 h2 h3 h4 h5 h6 h7 h8
  exact lv_iadd h1.1 h1.2.1 hd (k z hz p e s m args below meth c D cA ad ad0 n0 A H locs la h1 h2 h3 h4 h5 h6 h7 h8)
theorem pv_isub {x y : Int32} (hd : decode cc pc = .ok (.isub, 1)) (k : pm_V l cc own nL ret R g shE mc ms fin sh kc ks (pc + 1) ls (.int (x - y) :: st) μ o) : pm_V l cc own nL ret R g shE mc ms fin sh kc ks pc ls (.int y :: .int x :: st) μ o := by
  intro z hz p e s m args below meth c D cA ad ad0 n0 A H locs la h1 h2 h3 h4 h5 h6 h7 h8
  exact lv_isub h1.1 h1.2.1 hd (k z hz p e s m args below meth c D cA ad ad0 n0 A H locs la h1 h2 h3 h4 h5 h6 h7 h8)
theorem pv_imul {x y : Int32} (hd : decode cc pc = .ok (.imul, 1)) (k : pm_V l cc own nL ret R g shE mc ms fin sh kc ks (pc + 1) ls (.int (x * y) :: st) μ o) : pm_V l cc own nL ret R g shE mc ms fin sh kc ks pc ls (.int y :: .int x :: st) μ o := by
  intro z hz p e s m args below meth c D cA ad ad0 n0 A H locs la h1 h2 h3 h4 h5 h6 h7 h8
  exact lv_imul h1.1 h1.2.1 hd (k z hz p e s m args below meth c D cA ad ad0 n0 A H locs la h1 h2 h3 h4 h5 h6 h7 h8)
theorem pv_iand {x y : Int32} (hd : decode cc pc = .ok (.iand, 1)) (k : pm_V l cc own nL ret R g shE mc ms fin sh kc ks (pc + 1) ls (.int (x &&& y) :: st) μ o) : pm_V l cc own nL ret R g shE mc ms fin sh kc ks pc ls (.int y :: .int x :: st) μ o := by
  intro z hz p e s m args below meth c D cA ad ad0 n0 A H locs la h1 h2 h3 h4 h5 h6 h7 h8
  exact lv_iand h1.1 h1.2.1 hd (k z hz p e s m args below meth c D cA ad ad0 n0 A H locs la h1 h2 h3 h4 h5 h6 h7 h8)
theorem pv_ior {x y : Int32} (hd : decode cc pc = .ok (.ior, 1)) (k : pm_V l cc own nL ret R g shE mc ms fin sh kc ks (pc + 1) ls (.int (x ||| y) :: st) μ o) : pm_V l cc own nL ret R g shE mc ms fin sh kc ks pc ls (.int y :: .int x :: st) μ o := by
  intro z hz p e s m args below meth c D cA ad ad0 n0 A H locs la h1 h2 h3 h4 h5 h6 h7 h8
  exact lv_ior h1.1 h1.2.1 hd (k z hz p e s m args below meth c D cA ad ad0 n0 A H locs la h1 h2 h3 h4 h5 h6 h7 h8)
theorem pv_ixor {x y : Int32} (hd : decode cc pc = .ok (.ixor, 1)) (k : pm_V l cc own nL ret R g shE mc ms fin sh kc ks (pc + 1) ls (.int (x ^^^ y) :: st) μ o) : pm_V l cc own nL ret R g shE mc ms fin sh kc ks pc ls (.int y :: .int x :: st) μ o := by
  intro z hz p e s m args below meth c D cA ad ad0 n0 A H locs la h1 h2 h3 h4 h5 h6 h7 h8
  exact lv_ixor h1.1 h1.2.1 hd (k z hz p e s m args below meth c D cA ad ad0 n0 A H locs la h1 h2 h3 h4 h5 h6 h7 h8)
theorem pv_ineg {x : Int32} (hd : decode cc pc = .ok (.ineg, 1)) (k : pm_V l cc own nL ret R g shE mc ms fin sh kc ks (pc + 1) ls (.int (0 - x) :: st) μ o) : pm_V l cc own nL ret R g shE mc ms fin sh kc ks pc ls (.int x :: st) μ o := by
  intro z hz p e s m args below meth c D cA ad ad0 n0 A H locs la h1 h2 h3 h4 h5 h6 h7 h8
  exact lv_ineg h1.1 h1.2.1 hd (k z hz p e s m args below meth c D cA ad ad0 n0 A H locs la h1 h2 h3 h4 h5 h6 h7 h8)
theorem pv_idiv {x y : Int32} (hd : decode cc pc = .ok (.idiv, 1)) (hne : ¬ y = 0) (k : pm_V l cc own nL ret R g shE mc ms fin sh kc ks (pc + 1) ls (.int (x / y) :: st) μ o) : pm_V l cc own nL ret R g shE mc ms fin sh kc ks pc ls (.int y :: .int x :: st) μ o := by
  intro z hz p e s m args below meth c D cA ad ad0 n0 A H locs la h1 h2 h3 h4 h5 h6 h7 h8
  exact lv_idiv h1.1 h1.2.1 hd hne (k z hz p e s m args below meth c D cA ad ad0 n0 A H locs la h1 h2 h3 h4 h5 h6 h7 h8)
theorem pv_irem {x y : Int32} (hd : decode cc pc = .ok (.irem, 1)) (hne : ¬ y = 0) (k : pm_V l cc own nL ret R g shE mc ms fin sh kc ks (pc + 1) ls (.int (pm_rem x y) :: st) μ o) : pm_V l cc own nL ret R g shE mc ms fin sh kc ks pc ls (.int y :: .int x :: st) μ o := by
  intro z hz p e s m args below meth c D cA ad ad0 n0 A H locs la h1 h2 h3 h4 h5 h6 h7 h8
  exact lv_irem h1.1 h1.2.1 hd hne (k z hz p e s m args below meth c D cA ad ad0 n0 A H locs la h1 h2 h3 h4 h5 h6 h7 h8)
theorem pv_ishl {x y : Int32} (hd : decode cc pc = .ok (.ishl, 1)) (k : pm_V l cc own nL ret R g shE mc ms fin sh kc ks (pc + 1) ls (.int (x <<< (y &&& 31)) :: st) μ o) : pm_V l cc own nL ret R g shE mc ms fin sh kc ks pc ls (.int y :: .int x :: st) μ o := by
  intro z hz p e s m args below meth c D cA ad ad0 n0 A H locs la h1 h2 h3 h4 h5 h6 h7 h8
  exact lv_ishl h1.1 h1.2.1 hd (k z hz p e s m args below meth c D cA ad ad0 n0 A H locs la h1 h2 h3 h4 h5 h6 h7 h8)
theorem pv_ishr {x y : Int32} (hd : decode cc pc = .ok (.ishr, 1)) (k : pm_V l cc own nL ret R g shE mc ms fin sh kc ks (pc + 1) ls (.int (x >>> (y &&& 31)) :: st) μ o) : pm_V l cc own nL ret R g shE mc ms fin sh kc ks pc ls (.int y :: .int x :: st) μ o := by
  intro z hz p e s m args below meth c D cA ad ad0 n0 A H locs la h1 h2 h3 h4 h5 h6 h7 h8
  exact lv_ishr h1.1 h1.2.1 hd (k z hz p e s m args below meth c D cA ad ad0 n0 A H locs la h1 h2 h3 h4 h5 h6 h7 h8)
theorem pv_iushr {x y : Int32} (hd : decode cc pc = .ok (.iushr, 1)) (k : pm_V l cc own nL ret R g shE mc ms fin sh kc ks (pc + 1) ls (.int (x.toUInt32 >>> (y.toUInt32 &&& Int32.toUInt32 31)).toInt32 :: st) μ o) : pm_V l cc own nL ret R g shE mc ms fin sh kc ks pc ls (.int y :: .int x :: st) μ o := by
  intro z hz p e s m args below meth c D cA ad ad0 n0 A H locs la h1 h2 h3 h4 h5 h6 h7 h8
  exact lv_iushr h1.1 h1.2.1 hd rfl (k z hz p e s m args below meth c D cA ad ad0 n0 A H locs la h1 h2 h3 h4 h5 h6 h7 h8)
theorem pv_ladd {x y : Int64} (hd : decode cc pc = .ok (.ladd, 1)) (k : pm_V l cc own nL ret R g shE mc ms fin sh kc ks (pc + 1) ls (.long (x + y) :: st) μ o) : pm_V l cc own nL ret R g shE mc ms fin sh kc ks pc ls (.long y :: .long x :: st) μ o := by
  intro z hz p e s m args below meth c D cA ad ad0 n0 A H locs la h1 h2 h3 h4 h5 h6 h7 h8
  exact lv_ladd h1.1 h1.2.1 hd (k z hz p e s m args below meth c D cA ad ad0 n0 A H locs la h1 h2 h3 h4 h5 h6 h7 h8)
theorem pv_lsub {x y : Int64} (hd : decode cc pc = .ok (.lsub, 1)) (k : pm_V l cc own nL ret R g shE mc ms fin sh kc ks (pc + 1) ls (.long (x - y) :: st) μ o) : pm_V l cc own nL ret R g shE mc ms fin sh kc ks pc ls (.long y :: .long x :: st) μ o := by
  intro z hz p e s m args below meth c D cA ad ad0 n0 A H locs la h1 h2 h3 h4 h5 h6 h7 h8
  exact lv_lsub h1.1 h1.2.1 hd (k z hz p e s m args below meth c D cA ad ad0 n0 A H locs la h1 h2 h3 h4 h5 h6 h7 h8)
theorem pv_lmul {x y : Int64} (hd : decode cc pc = .ok (.lmul, 1)) (k : pm_V l cc own nL ret R g shE mc ms fin sh kc ks (pc + 1) ls (.long (x * y) :: st) μ o) : pm_V l cc own nL ret R g shE mc ms fin sh kc ks pc ls (.long y :: .long x :: st) μ o := by
  intro z hz p e s m args below meth c D cA ad ad0 n0 A H locs la h1 h2 h3 h4 h5 h6 h7 h8
  exact lv_lmul h1.1 h1.2.1 hd (k z hz p e s m args below meth c D cA ad ad0 n0 A H locs la h1 h2 h3 h4 h5 h6 h7 h8)
theorem pv_i2l {x : Int32} (hd : decode cc pc = .ok (.i2l, 1)) (k : pm_V l cc own nL ret R g shE mc ms fin sh kc ks (pc + 1) ls (.long x.toInt64 :: st) μ o) : pm_V l cc own nL ret R g shE mc ms fin sh kc ks pc ls (.int x :: st) μ o := by
  intro z hz p e s m args below meth c D cA ad ad0 n0 A H locs la h1 h2 h3 h4 h5 h6 h7 h8
  exact lv_i2l h1.1 h1.2.1 hd rfl (k z hz p e s m args below meth c D cA ad ad0 n0 A H locs la h1 h2 h3 h4 h5 h6 h7 h8)
theorem pv_ldiv {x y : Int64} (hd : decode cc pc = .ok (.ldiv, 1)) (k : pm_V l cc own nL ret R g shE mc ms fin sh kc ks (pc + 1) ls (.long (x / y) :: st) μ o) : pm_V l cc own nL ret R g shE mc ms fin sh kc ks pc ls (.long y :: .long x :: st) μ (if y = 0 then none else o) := by
  intro z hz p e s m args below meth c D cA ad ad0 n0 A H locs la h1 h2 h3 h4 h5 h6 h7 h8
  by_cases hy : y = 0
  · rw [if_pos hy] at hz; cases hz
  · rw [if_neg hy] at hz
    exact lv_ldiv h1.1 h1.2.1 hd hy (k z hz p e s m args below meth c D cA ad ad0 n0 A H locs la h1 h2 h3 h4 h5 h6 h7 h8)
theorem pv_lrem {x y : Int64} (hd : decode cc pc = .ok (.lrem, 1)) (k : pm_V l cc own nL ret R g shE mc ms fin sh kc ks (pc + 1) ls (.long (pm_lrem x y) :: st) μ o) : pm_V l cc own nL ret R g shE mc ms fin sh kc ks pc ls (.long y :: .long x :: st) μ (if y = 0 then none else o) := by
  intro z hz p e s m args below meth c D cA ad ad0 n0 A H locs la h1 h2 h3 h4 h5 h6 h7 h8
  by_cases hy : y = 0
  · rw [if_pos hy] at hz; cases hz
  · rw [if_neg hy] at hz
    exact lv_lrem h1.1 h1.2.1 hd hy (k z hz p e s m args below meth c D cA ad ad0 n0 A H locs la h1 h2 h3 h4 h5 h6 h7 h8)
theorem pv_dup {v : Value} (hd : decode cc pc = .ok (.dup, 1)) (hv : v.category = 1) (k : pm_V l cc own nL ret R g shE mc ms fin sh kc ks (pc + 1) ls (v :: v :: st) μ o) : pm_V l cc own nL ret R g shE mc ms fin sh kc ks pc ls (v :: st) μ o := by
  intro z hz p e s m args below meth c D cA ad ad0 n0 A H locs la h1 h2 h3 h4 h5 h6 h7 h8
  exact lv_dup h1.1 h1.2.1 hd ((pm_cat ad v).trans hv) (k z hz p e s m args below meth c D cA ad ad0 n0 A H locs la h1 h2 h3 h4 h5 h6 h7 h8)
theorem pv_dup2 {va vb : Value} (hd : decode cc pc = .ok (.dup2, 1)) (hv : va.category = 1) (hw : vb.category = 1) (k : pm_V l cc own nL ret R g shE mc ms fin sh kc ks (pc + 1) ls (va :: vb :: va :: vb :: st) μ o) : pm_V l cc own nL ret R g shE mc ms fin sh kc ks pc ls (va :: vb :: st) μ o := by
  intro z hz p e s m args below meth c D cA ad ad0 n0 A H locs la h1 h2 h3 h4 h5 h6 h7 h8
  exact lv_dup2_11 h1.1 h1.2.1 hd ((pm_cat ad va).trans hv) ((pm_cat ad vb).trans hw) (k z hz p e s m args below meth c D cA ad ad0 n0 A H locs la h1 h2 h3 h4 h5 h6 h7 h8)
theorem pv_pop {v : Value} (hd : decode cc pc = .ok (.pop, 1)) (hv : v.category = 1) (k : pm_V l cc own nL ret R g shE mc ms fin sh kc ks (pc + 1) ls (st) μ o) : pm_V l cc own nL ret R g shE mc ms fin sh kc ks pc ls (v :: st) μ o := by
  intro z hz p e s m args below meth c D cA ad ad0 n0 A H locs la h1 h2 h3 h4 h5 h6 h7 h8
  exact lv_pop h1.1 h1.2.1 hd ((pm_cat ad v).trans hv) (k z hz p e s m args below meth c D cA ad ad0 n0 A H locs la h1 h2 h3 h4 h5 h6 h7 h8)
theorem pv_icmp_ne {x y : Int32} {off : Int} {tgt : Nat} (hd : decode cc pc = .ok (.if_icmp .ne off, 3)) (ht : (pc : Int) + off = (tgt : Int)) (k1 : pm_V l cc own nL ret R g shE mc ms fin sh kc ks tgt ls st μ o1) (k2 : pm_V l cc own nL ret R g shE mc ms fin sh kc ks (pc + 3) ls st μ o2) : pm_V l cc own nL ret R g shE mc ms fin sh kc ks pc ls (.int y :: .int x :: st) μ (if x = y then o2 else o1) := by
  intro z hz p e s m args below meth c D cA ad ad0 n0 A H locs la h1 h2 h3 h4 h5 h6 h7 h8
  refine lv_icmp_ne h1.1 h1.2.1 hd ht (fun hc => ?_) (fun hc => ?_)
  · rw [if_neg hc] at hz; exact k1 z hz p e s m args below meth c D cA ad ad0 n0 A H locs la h1 h2 h3 h4 h5 h6 h7 h8
  · rw [if_pos hc] at hz; exact k2 z hz p e s m args below meth c D cA ad ad0 n0 A H locs la h1 h2 h3 h4 h5 h6 h7 h8
theorem pv_if_ne {x : Int32} {off : Int} {tgt : Nat} (hd : decode cc pc = .ok (.ifCond .ne off, 3)) (ht : (pc : Int) + off = (tgt : Int)) (k1 : pm_V l cc own nL ret R g shE mc ms fin sh kc ks tgt ls st μ o1) (k2 : pm_V l cc own nL ret R g shE mc ms fin sh kc ks (pc + 3) ls st μ o2) : pm_V l cc own nL ret R g shE mc ms fin sh kc ks pc ls (.int x :: st) μ (if x = 0 then o2 else o1) := by
  intro z hz p e s m args below meth c D cA ad ad0 n0 A H locs la h1 h2 h3 h4 h5 h6 h7 h8
  refine lv_if_ne h1.1 h1.2.1 hd ht (fun hc => ?_) (fun hc => ?_)
  · rw [if_neg hc] at hz; exact k1 z hz p e s m args below meth c D cA ad ad0 n0 A H locs la h1 h2 h3 h4 h5 h6 h7 h8
  · rw [if_pos hc] at hz; exact k2 z hz p e s m args below meth c D cA ad ad0 n0 A H locs la h1 h2 h3 h4 h5 h6 h7 h8
theorem pv_icmp_eq {x y : Int32} {off : Int} {tgt : Nat} (hd : decode cc pc = .ok (.if_icmp .eq off, 3)) (ht : (pc : Int) + off = (tgt : Int)) (k1 : pm_V l cc own nL ret R g shE mc ms fin sh kc ks tgt ls st μ o1) (k2 : pm_V l cc own nL ret R g shE mc ms fin sh kc ks (pc + 3) ls st μ o2) : pm_V l cc own nL ret R g shE mc ms fin sh kc ks pc ls (.int y :: .int x :: st) μ (if x = y then o1 else o2) := by
  intro z hz p e s m args below meth c D cA ad ad0 n0 A H locs la h1 h2 h3 h4 h5 h6 h7 h8
  refine lv_icmp_eq h1.1 h1.2.1 hd ht (fun hc => ?_) (fun hc => ?_)
  · rw [if_pos hc] at hz; exact k1 z hz p e s m args below meth c D cA ad ad0 n0 A H locs la h1 h2 h3 h4 h5 h6 h7 h8
  · rw [if_neg hc] at hz; exact k2 z hz p e s m args below meth c D cA ad ad0 n0 A H locs la h1 h2 h3 h4 h5 h6 h7 h8
theorem pv_icmp_lt {x y : Int32} {off : Int} {tgt : Nat} (hd : decode cc pc = .ok (.if_icmp .lt off, 3)) (ht : (pc : Int) + off = (tgt : Int)) (k1 : pm_V l cc own nL ret R g shE mc ms fin sh kc ks tgt ls st μ o1) (k2 : pm_V l cc own nL ret R g shE mc ms fin sh kc ks (pc + 3) ls st μ o2) : pm_V l cc own nL ret R g shE mc ms fin sh kc ks pc ls (.int y :: .int x :: st) μ (if x < y then o1 else o2) := by
  intro z hz p e s m args below meth c D cA ad ad0 n0 A H locs la h1 h2 h3 h4 h5 h6 h7 h8
  refine lv_icmp_lt h1.1 h1.2.1 hd ht (fun hc => ?_) (fun hc => ?_)
  · rw [if_pos hc] at hz; exact k1 z hz p e s m args below meth c D cA ad ad0 n0 A H locs la h1 h2 h3 h4 h5 h6 h7 h8
  · rw [if_neg hc] at hz; exact k2 z hz p e s m args below meth c D cA ad ad0 n0 A H locs la h1 h2 h3 h4 h5 h6 h7 h8
theorem pv_icmp_ge {x y : Int32} {off : Int} {tgt : Nat} (hd : decode cc pc = .ok (.if_icmp .ge off, 3)) (ht : (pc : Int) + off = (tgt : Int)) (k1 : pm_V l cc own nL ret R g shE mc ms fin sh kc ks tgt ls st μ o1) (k2 : pm_V l cc own nL ret R g shE mc ms fin sh kc ks (pc + 3) ls st μ o2) : pm_V l cc own nL ret R g shE mc ms fin sh kc ks pc ls (.int y :: .int x :: st) μ (if y ≤ x then o1 else o2) := by
  intro z hz p e s m args below meth c D cA ad ad0 n0 A H locs la h1 h2 h3 h4 h5 h6 h7 h8
  refine lv_icmp_ge h1.1 h1.2.1 hd ht (fun hc => ?_) (fun hc => ?_)
  · rw [if_pos hc] at hz; exact k1 z hz p e s m args below meth c D cA ad ad0 n0 A H locs la h1 h2 h3 h4 h5 h6 h7 h8
  · rw [if_neg hc] at hz; exact k2 z hz p e s m args below meth c D cA ad ad0 n0 A H locs la h1 h2 h3 h4 h5 h6 h7 h8
theorem pv_icmp_gt {x y : Int32} {off : Int} {tgt : Nat} (hd : decode cc pc = .ok (.if_icmp .gt off, 3)) (ht : (pc : Int) + off = (tgt : Int)) (k1 : pm_V l cc own nL ret R g shE mc ms fin sh kc ks tgt ls st μ o1) (k2 : pm_V l cc own nL ret R g shE mc ms fin sh kc ks (pc + 3) ls st μ o2) : pm_V l cc own nL ret R g shE mc ms fin sh kc ks pc ls (.int y :: .int x :: st) μ (if y < x then o1 else o2) := by
  intro z hz p e s m args below meth c D cA ad ad0 n0 A H locs la h1 h2 h3 h4 h5 h6 h7 h8
  refine lv_icmp_gt h1.1 h1.2.1 hd ht (fun hc => ?_) (fun hc => ?_)
  · rw [if_pos hc] at hz; exact k1 z hz p e s m args below meth c D cA ad ad0 n0 A H locs la h1 h2 h3 h4 h5 h6 h7 h8
  · rw [if_neg hc] at hz; exact k2 z hz p e s m args below meth c D cA ad ad0 n0 A H locs la h1 h2 h3 h4 h5 h6 h7 h8
theorem pv_icmp_le {x y : Int32} {off : Int} {tgt : Nat} (hd : decode cc pc = .ok (.if_icmp .le off, 3)) (ht : (pc : Int) + off = (tgt : Int)) (k1 : pm_V l cc own nL ret R g shE mc ms fin sh kc ks tgt ls st μ o1) (k2 : pm_V l cc own nL ret R g shE mc ms fin sh kc ks (pc + 3) ls st μ o2) : pm_V l cc own nL ret R g shE mc ms fin sh kc ks pc ls (.int y :: .int x :: st) μ (if x ≤ y then o1 else o2) := by
  intro z hz p e s m args below meth c D cA ad ad0 n0 A H locs la h1 h2 h3 h4 h5 h6 h7 h8
  refine lv_icmp_le h1.1 h1.2.1 hd ht (fun hc => ?_) (fun hc => ?_)
  · rw [if_pos hc] at hz; exact k1 z hz p e s m args below meth c D cA ad ad0 n0 A H locs la h1 h2 h3 h4 h5 h6 h7 h8
  · rw [if_neg hc] at hz; exact k2 z hz p e s m args below meth c D cA ad ad0 n0 A H locs la h1 h2 h3 h4 h5 h6 h7 h8
theorem pv_if_eq {x : Int32} {off : Int} {tgt : Nat} (hd : decode cc pc = .ok (.ifCond .eq off, 3)) (ht : (pc : Int) + off = (tgt : Int)) (k1 : pm_V l cc own nL ret R g shE mc ms fin sh kc ks tgt ls st μ o1) (k2 : pm_V l cc own nL ret R g shE mc ms fin sh kc ks (pc + 3) ls st μ o2) : pm_V l cc own nL ret R g shE mc ms fin sh kc ks pc ls (.int x :: st) μ (if x = 0 then o1 else o2) := by
  intro z hz p e s m args below meth c D cA ad ad0 n0 A H locs la h1 h2 h3 h4 h5 h6 h7 h8
  refine lv_if_eq h1.1 h1.2.1 hd ht (fun hc => ?_) (fun hc => ?_)
  · rw [if_pos hc] at hz; exact k1 z hz p e s m args below meth c D cA ad ad0 n0 A H locs la h1 h2 h3 h4 h5 h6 h7 h8
  · rw [if_neg hc] at hz; exact k2 z hz p e s m args below meth c D cA ad ad0 n0 A H locs la h1 h2 h3 h4 h5 h6 h7 h8
theorem pv_if_lt {x : Int32} {off : Int} {tgt : Nat} (hd : decode cc pc = .ok (.ifCond .lt off, 3)) (ht : (pc : Int) + off = (tgt : Int)) (k1 : pm_V l cc own nL ret R g shE mc ms fin sh kc ks tgt ls st μ o1) (k2 : pm_V l cc own nL ret R g shE mc ms fin sh kc ks (pc + 3) ls st μ o2) : pm_V l cc own nL ret R g shE mc ms fin sh kc ks pc ls (.int x :: st) μ (if x < 0 then o1 else o2) := by
  intro z hz p e s m args below meth c D cA ad ad0 n0 A H locs la h1 h2 h3 h4 h5 h6 h7 h8
  refine lv_if_lt h1.1 h1.2.1 hd ht (fun hc => ?_) (fun hc => ?_)
  · rw [if_pos hc] at hz; exact k1 z hz p e s m args below meth c D cA ad ad0 n0 A H locs la h1 h2 h3 h4 h5 h6 h7 h8
  · rw [if_neg hc] at hz; exact k2 z hz p e s m args below meth c D cA ad ad0 n0 A H locs la h1 h2 h3 h4 h5 h6 h7 h8
theorem pv_if_ge {x : Int32} {off : Int} {tgt : Nat} (hd : decode cc pc = .ok (.ifCond .ge off, 3)) (ht : (pc : Int) + off = (tgt : Int)) (k1 : pm_V l cc own nL ret R g shE mc ms fin sh kc ks tgt ls st μ o1) (k2 : pm_V l cc own nL ret R g shE mc ms fin sh kc ks (pc + 3) ls st μ o2) : pm_V l cc own nL ret R g shE mc ms fin sh kc ks pc ls (.int x :: st) μ (if 0 ≤ x then o1 else o2) := by
  intro z hz p e s m args below meth c D cA ad ad0 n0 A H locs la h1 h2 h3 h4 h5 h6 h7 h8
  refine lv_if_ge h1.1 h1.2.1 hd ht (fun hc => ?_) (fun hc => ?_)
  · rw [if_pos hc] at hz; exact k1 z hz p e s m args below meth c D cA ad ad0 n0 A H locs la h1 h2 h3 h4 h5 h6 h7 h8
  · rw [if_neg hc] at hz; exact k2 z hz p e s m args below meth c D cA ad ad0 n0 A H locs la h1 h2 h3 h4 h5 h6 h7 h8
theorem pv_if_gt {x : Int32} {off : Int} {tgt : Nat} (hd : decode cc pc = .ok (.ifCond .gt off, 3)) (ht : (pc : Int) + off = (tgt : Int)) (k1 : pm_V l cc own nL ret R g shE mc ms fin sh kc ks tgt ls st μ o1) (k2 : pm_V l cc own nL ret R g shE mc ms fin sh kc ks (pc + 3) ls st μ o2) : pm_V l cc own nL ret R g shE mc ms fin sh kc ks pc ls (.int x :: st) μ (if 0 < x then o1 else o2) := by
  intro z hz p e s m args below meth c D cA ad ad0 n0 A H locs la h1 h2 h3 h4 h5 h6 h7 h8
  refine lv_if_gt h1.1 h1.2.1 hd ht (fun hc => ?_) (fun hc => ?_)
  · rw [if_pos hc] at hz; exact k1 z hz p e s m args below meth c D cA ad ad0 n0 A H locs la h1 h2 h3 h4 h5 h6 h7 h8
  · rw [if_neg hc] at hz; exact k2 z hz p e s m args below meth c D cA ad ad0 n0 A H locs la h1 h2 h3 h4 h5 h6 h7 h8
theorem pv_if_le {x : Int32} {off : Int} {tgt : Nat} (hd : decode cc pc = .ok (.ifCond .le off, 3)) (ht : (pc : Int) + off = (tgt : Int)) (k1 : pm_V l cc own nL ret R g shE mc ms fin sh kc ks tgt ls st μ o1) (k2 : pm_V l cc own nL ret R g shE mc ms fin sh kc ks (pc + 3) ls st μ o2) : pm_V l cc own nL ret R g shE mc ms fin sh kc ks pc ls (.int x :: st) μ (if x ≤ 0 then o1 else o2) := by
  intro z hz p e s m args below meth c D cA ad ad0 n0 A H locs la h1 h2 h3 h4 h5 h6 h7 h8
  refine lv_if_le h1.1 h1.2.1 hd ht (fun hc => ?_) (fun hc => ?_)
  · rw [if_pos hc] at hz; exact k1 z hz p e s m args below meth c D cA ad ad0 n0 A H locs la h1 h2 h3 h4 h5 h6 h7 h8
  · rw [if_neg hc] at hz; exact k2 z hz p e s m args below meth c D cA ad ad0 n0 A H locs la h1 h2 h3 h4 h5 h6 h7 h8
theorem pv_goto {off : Int} {tgt : Nat} (hd : decode cc pc = .ok (.goto off, 3)) (ht : (pc : Int) + off = (tgt : Int)) (k : pm_V l cc own nL ret R g shE mc ms fin sh kc ks tgt ls st μ o) : pm_V l cc own nL ret R g shE mc ms fin sh kc ks pc ls st μ o := by
  intro z hz p e s m args below meth c D cA ad ad0 n0 A H locs la h1 h2 h3 h4 h5 h6 h7 h8
  exact lv_goto h1.1 h1.2.1 hd ht (k z hz p e s m args below meth c D cA ad ad0 n0 A H locs la h1 h2 h3 h4 h5 h6 h7 h8)
theorem pv_let {x : Int32} {K : Int32 → Option τ} (k : ∀ y, pm_V l cc own nL ret R g shE mc ms fin sh kc ks pc ls (.int y :: st) μ (K y)) : pm_V l cc own nL ret R g shE mc ms fin sh kc ks pc ls (.int x :: st) μ (pm_let x K) := k x
theorem pv_letl {x : Int64} {K : Int64 → Option τ} (k : ∀ y, pm_V l cc own nL ret R g shE mc ms fin sh kc ks pc ls (.long y :: st) μ (K y)) : pm_V l cc own nL ret R g shE mc ms fin sh kc ks pc ls (.long x :: st) μ (pm_let x K) := k x
theorem pv_letM {K : pm_M → Option τ} (k : ∀ ν, pm_V l cc own nL ret R g shE mc ms fin sh kc ks pc ls st ν (K ν)) : pm_V l cc own nL ret R g shE mc ms fin sh kc ks pc ls st μ (pm_let μ K) := k μ
theorem pv_weak {ls' : List (Option Value)} (hw : ∀ (i : Nat) (v : Value), ls'[i]? = some (some v) → ls[i]? = some (some v)) (k : pm_V l cc own nL ret R g shE mc ms fin sh kc ks pc ls' st μ o) : pm_V l cc own nL ret R g shE mc ms fin sh kc ks pc ls st μ o := by
  intro z hz p e s m args below meth c D cA ad ad0 n0 A H locs la h1 h2 h3 h4 h5 h6 h7 h8
  exact k z hz p e s m args below meth c D cA ad ad0 n0 A H locs la h1 h2 h3 h4 h5 h6 h7 (pm_l_weak h8 hw)
def pm_mk : List Bool → List (Option Value) → List (Option Value)
  | b :: bs, x :: xs => (if b then x else none) :: pm_mk bs xs
  | _, _ => []
theorem pm_mk_le : ∀ (bs : List Bool) (ls : List (Option Value)) (i : Nat) (v : Value), (pm_mk bs ls)[i]? = some (some v) → ls[i]? = some (some v)
  | [], ls, i, v, h => by simp [pm_mk] at h
  | b :: bs, [], i, v, h => by simp [pm_mk] at h
  | b :: bs, x :: xs, 0, v, h => by
    cases b
    · exact absurd h (by simp [pm_mk])
    · exact h
  | b :: bs, x :: xs, i + 1, v, h => by
    rw [List.getElem?_cons_succ]
    exact pm_mk_le bs xs i v h
theorem pv_mask {ls' : List (Option Value)} (bs : List Bool) (hw : pm_mk bs ls = ls') (k : pm_V l cc own nL ret R g shE mc ms fin sh kc ks pc ls' st μ o) : pm_V l cc own nL ret R g shE mc ms fin sh kc ks pc ls st μ o := pv_weak (fun i v h => pm_mk_le bs ls i v (by rw [hw]; exact h)) k
theorem pv_jn {α : Type} {J : α → Option τ} {T : (α → Option τ) → Option τ} {pcJ : Nat} {lsJ : α → List (Option Value)} {stJ : α → List Value} {mJ : α → pm_M} (hj : ∀ a, pm_V l cc own nL ret R g shE mc ms fin sh kc ks pcJ (lsJ a) (stJ a) (mJ a) (J a)) (ht : ∀ j : α → Option τ, (∀ a, pm_V l cc own nL ret R g shE mc ms fin sh kc ks pcJ (lsJ a) (stJ a) (mJ a) (j a)) → pm_V l cc own nL ret R g shE mc ms fin sh kc ks pc ls st μ (T j)) : pm_V l cc own nL ret R g shE mc ms fin sh kc ks pc ls st μ (pm_jn J T) := ht J hj
theorem pv_loop {σ ε : Type} {body : σ → (σ → Option τ) → (ε → Option τ) → Option τ} {kE : ε → Option τ} {pcE : Nat} {lsf : σ → List (Option Value)} {mf : σ → pm_M} {lsE : ε → List (Option Value)} {mE : ε → pm_M} (hE : ∀ a, pm_V l cc own nL ret R g shE mc ms fin sh kc ks pcE (lsE a) [] (mE a) (kE a))
    (hb : ∀ (E : ε → Option τ), (∀ a, pm_V l cc own nL ret R g shE mc ms fin sh kc ks pcE (lsE a) [] (mE a) (E a)) → ∀ (T : σ → Option τ), (∀ v, pm_V l cc own nL ret R g shE mc ms fin sh kc ks pc (lsf v) [] (mf v) (T v)) → ∀ v, pm_V l cc own nL ret R g shE mc ms fin sh kc ks pc (lsf v) [] (mf v) (body v T E)) :
    ∀ (n : Nat) (v : σ), pm_V l cc own nL ret R g shE mc ms fin sh kc ks pc (lsf v) [] (mf v) (pm_it body n v kE)
  | 0, v => fun x hx => by cases hx
  | n + 1, v => hb kE hE (fun v' => pm_it body n v' kE) (fun v' => pv_loop hE hb n v') v
theorem pv_iald {i : Int32} {j n : Nat} (hd : decode cc pc = .ok (.iaload, 1)) (hs : sh[j]? = some (.inl (0, n))) (k : pm_V l cc own nL ret R g shE mc ms fin sh kc ks (pc + 1) ls (.int (μ j i.toNatClampNeg) :: st) μ o) : pm_V l cc own nL ret R g shE mc ms fin sh kc ks pc ls (.int i :: .ref j :: st) μ (pm_ck i n o) := by
  intro z hz p e s m args below meth c D cA ad ad0 n0 A H locs la h1 h2 h3 h4 h5 h6 h7 h8
  unfold pm_ck at hz
  by_cases hi : i < 0 ∨ n ≤ i.toNatClampNeg
  · rw [if_pos hi] at hz; cases hz
  · rw [if_neg hi] at hz
    exact va_iald h1.1 h1.2.1 h1.2.2.2.2.2.2.2 h5 j 0 (pm_w_get0 hs) rfl hi hd (k z hz p e s m args below meth c D cA ad ad0 n0 A H locs la h1 h2 h3 h4 h5 h6 h7 h8)
theorem pv_zald {i : Int32} {j n : Nat} (hd : decode cc pc = .ok (.baload, 1)) (hs : sh[j]? = some (.inl (1, n))) (k : pm_V l cc own nL ret R g shE mc ms fin sh kc ks (pc + 1) ls (.int (μ j i.toNatClampNeg) :: st) μ o) : pm_V l cc own nL ret R g shE mc ms fin sh kc ks pc ls (.int i :: .ref j :: st) μ (pm_ck i n o) := by
  intro z hz p e s m args below meth c D cA ad ad0 n0 A H locs la h1 h2 h3 h4 h5 h6 h7 h8
  unfold pm_ck at hz
  by_cases hi : i < 0 ∨ n ≤ i.toNatClampNeg
  · rw [if_pos hi] at hz; cases hz
  · rw [if_neg hi] at hz
    exact va_zald h1.1 h1.2.1 h1.2.2.2.2.2.2.2 h5 j 1 (pm_w_get0 hs) rfl hi hd (k z hz p e s m args below meth c D cA ad ad0 n0 A H locs la h1 h2 h3 h4 h5 h6 h7 h8)
theorem pm_up_w {ad : Nat → Nat} {cA : Nat → ClassId} {t n j i : Nat} {x : Int32} (hs : sh[j]? = some (.inl (t, n))) : (pm_w ad cA μ 0 sh).set j (ad j, .inl (cA t, n, .inl (upd (μ j) i x))) = pm_w ad cA (pm_up μ j i x) 0 sh := pm_w_set0 (g := upd (μ j) i x) hs
theorem pv_iast {i x : Int32} {j n : Nat} (hd : decode cc pc = .ok (.iastore, 1)) (hs : sh[j]? = some (.inl (0, n))) (k : pm_V l cc own nL ret R g shE mc ms fin sh kc ks (pc + 1) ls st (pm_up μ j i.toNatClampNeg x) o) : pm_V l cc own nL ret R g shE mc ms fin sh kc ks pc ls (.int x :: .int i :: .ref j :: st) μ (pm_ck i n o) := by
  intro z hz p e s m args below meth c D cA ad ad0 n0 A H locs la h1 h2 h3 h4 h5 h6 h7 h8
  unfold pm_ck at hz
  by_cases hi : i < 0 ∨ n ≤ i.toNatClampNeg
  · rw [if_pos hi] at hz; cases hz
  · rw [if_neg hi] at hz
    refine va_iast h1.1 h1.2.1 h1.2.2.2.2.2.2.2 h5 h6 h7 j 0 (pm_w_get0 hs) rfl hi hd (fun H1 locs1 hP hD hS => ?_)
    rw [pm_up_w hs] at hP hD
    exact k z hz p e s m args below meth c D cA ad ad0 n0 A H1 locs1 la h1 h2 h3 h4 hP hD hS h8
theorem pv_zast {i x : Int32} {j n : Nat} (hd : decode cc pc = .ok (.bastore, 1)) (hs : sh[j]? = some (.inl (1, n))) (hx : vp_nar .boolean x = x) (k : pm_V l cc own nL ret R g shE mc ms fin sh kc ks (pc + 1) ls st (pm_up μ j i.toNatClampNeg x) o) : pm_V l cc own nL ret R g shE mc ms fin sh kc ks pc ls (.int x :: .int i :: .ref j :: st) μ (pm_ck i n o) := by
  intro z hz p e s m args below meth c D cA ad ad0 n0 A H locs la h1 h2 h3 h4 h5 h6 h7 h8
  unfold pm_ck at hz
  by_cases hi : i < 0 ∨ n ≤ i.toNatClampNeg
  · rw [if_pos hi] at hz; cases hz
  · rw [if_neg hi] at hz
    refine va_zast h1.1 h1.2.1 h1.2.2.2.2.2.2.2 h5 h6 h7 j 1 (pm_w_get0 hs) rfl hi hd (fun H1 locs1 hP hD hS => ?_)
    rw [hx, pm_up_w hs] at hP hD
    exact k z hz p e s m args below meth c D cA ad ad0 n0 A H1 locs1 la h1 h2 h3 h4 hP hD hS h8
theorem pv_alen {j t n : Nat} {v : Int32} (hd : decode cc pc = .ok (.arraylength, 1)) (hs : sh[j]? = some (.inl (0, n))) (hv : Int32.ofNat n = v) (k : pm_V l cc own nL ret R g shE mc ms fin sh kc ks (pc + 1) ls (.int v :: st) μ o) : pm_V l cc own nL ret R g shE mc ms fin sh kc ks pc ls (.ref j :: st) μ o := by
  intro z hz p e s m args below meth c D cA ad ad0 n0 A H locs la h1 h2 h3 h4 h5 h6 h7 h8
  exact va_alen (x := (n, .inl (μ j))) h1.1 h1.2.1 h1.2.2.2.2.2.2.2 h5 j 0 (pm_w_get0 hs) rfl hv hd (k z hz p e s m args below meth c D cA ad ad0 n0 A H locs la h1 h2 h3 h4 h5 h6 h7 h8)
/-- a field's link: class own's constant idx is field k of the class at place ci of vwCl -/
def pm_FL (own : String) (idx ci k : Nat) : Prop := ∃ (C : String) (T : u_T) (N : Nat), (∀ w ∈ u_ws C T N, w ∈ pm_T) ∧ vwCl[ci]? = some (C, T, N) ∧ k < N ∧ (Cond.fieldLink own idx (T k).1 (T k).2.1 (T k).2.2.1 ∈ pm_T ∨ ∃ host, Cond.fieldLinkNest own idx (T k).1 (T k).2.1 (T k).2.2.1 host ∈ pm_T)
def pm_FP (own : String) (idx ci k : Nat) (fin : Bool) (ty : FieldType) : Prop := ∃ (C : String) (T : u_T) (N : Nat) (ty0 : Nat → FieldType), (∀ w ∈ u_ws C T N, w ∈ pm_T) ∧ vwCl[ci]? = some (C, T, N) ∧ k < N ∧ Cond.fieldLink own idx (T k).1 (T k).2.1 (T k).2.2.1 ∈ pm_T ∧ (∀ k, k < N → parseFieldDescriptor (T k).2.2.1 = some (ty0 k)) ∧ (∀ a, a < N → ∀ b, b < N → a ≠ b → (T a).2.1 ≠ (T b).2.1) ∧ (T k).2.2.2 = fin ∧ parseFieldDescriptor (T k).2.2.1 = some ty ∧ (fin = true → (T k).1 = own)
theorem pv_getr {idx ci k0 j : Nat} {fs : List (Option Value)} {v : Value} (hd : decode cc pc = .ok (.getfield idx, 3)) (hF : pm_FL own idx ci k0) (hs : sh[j]? = some (.inr (ci, fs))) (hf : fs[k0]? = some (some v)) (k : pm_V l cc own nL ret R g shE mc ms fin sh kc ks (pc + 3) ls (v :: st) μ o) : pm_V l cc own nL ret R g shE mc ms fin sh kc ks pc ls (.ref j :: st) μ o := by
  intro z hz p e s m args below meth c D cA ad ad0 n0 A H locs la h1 h2 h3 h4 h5 h6 h7 h8
  obtain ⟨C, T, N, f1, f2, f3, f4⟩ := hF
  rcases f4 with f4 | ⟨host, f4⟩
  · exact va_get h1.1 h1.2.1 h1.2.2.2.2.2.2.1 f1 h1.2.2.2.1 h1.2.2.2.2.2.2.2 h5 j (pm_w_get0 hs) f2 k0 f3 (h1.2.2.2.2.2.2.1 _ f4) (fun _ h => h) (pm_f_some fs 0 k0 hf) hd (k z hz p e s m args below meth c D cA ad ad0 n0 A H locs la h1 h2 h3 h4 h5 h6 h7 h8)
  · exact va_getN h1.1 h1.2.1 h1.2.2.2.2.2.2.1 f1 h1.2.2.2.1 h1.2.2.2.2.2.2.2 h5 j (pm_w_get0 hs) f2 k0 f3 (h1.2.2.2.2.2.2.1 _ f4) (fun _ h => h) (pm_f_some fs 0 k0 hf) hd (k z hz p e s m args below meth c D cA ad ad0 n0 A H locs la h1 h2 h3 h4 h5 h6 h7 h8)
theorem pv_geti {idx ci k0 j : Nat} {fs : List (Option Value)} (hd : decode cc pc = .ok (.getfield idx, 3)) (hF : pm_FL own idx ci k0) (hs : sh[j]? = some (.inr (ci, fs))) (hf : fs[k0]? = some none) (k : pm_V l cc own nL ret R g shE mc ms fin sh kc ks (pc + 3) ls (.int (μ j k0) :: st) μ o) : pm_V l cc own nL ret R g shE mc ms fin sh kc ks pc ls (.ref j :: st) μ o := by
  intro z hz p e s m args below meth c D cA ad ad0 n0 A H locs la h1 h2 h3 h4 h5 h6 h7 h8
  obtain ⟨C, T, N, f1, f2, f3, f4⟩ := hF
  rcases f4 with f4 | ⟨host, f4⟩
  · exact va_get h1.1 h1.2.1 h1.2.2.2.2.2.2.1 f1 h1.2.2.2.1 h1.2.2.2.2.2.2.2 h5 j (pm_w_get0 hs) f2 k0 f3 (h1.2.2.2.2.2.2.1 _ f4) (fun _ h => h) ((pm_f_none fs 0 k0 hf).trans (by rw [Nat.zero_add]; rfl)) hd (k z hz p e s m args below meth c D cA ad ad0 n0 A H locs la h1 h2 h3 h4 h5 h6 h7 h8)
  · exact va_getN h1.1 h1.2.1 h1.2.2.2.2.2.2.1 f1 h1.2.2.2.1 h1.2.2.2.2.2.2.2 h5 j (pm_w_get0 hs) f2 k0 f3 (h1.2.2.2.2.2.2.1 _ f4) (fun _ h => h) ((pm_f_none fs 0 k0 hf).trans (by rw [Nat.zero_add]; rfl)) hd (k z hz p e s m args below meth c D cA ad ad0 n0 A H locs la h1 h2 h3 h4 h5 h6 h7 h8)
theorem pv_puti {idx ci k0 j : Nat} {fs : List (Option Value)} {ty : FieldType} {x : Int32} (hd : decode cc pc = .ok (.putfield idx, 3)) (hF : pm_FP own idx ci k0 false ty) (hs : sh[j]? = some (.inr (ci, fs))) (hf : fs[k0]? = some none) (hn : narrow ty (.int x) = .int x) (hfit : fits ty (.int x) = true) (k : pm_V l cc own nL ret R g shE mc ms fin sh kc ks (pc + 3) ls st (pm_up μ j k0 x) o) : pm_V l cc own nL ret R g shE mc ms fin sh kc ks pc ls (.int x :: .ref j :: st) μ o := by
  intro z hz p e s m args below meth c D cA ad ad0 n0 A H locs la h1 h2 h3 h4 h5 h6 h7 h8
  obtain ⟨C, T, N, ty0, f1, f2, f3, f4, f5, f6, f7, f8, f9⟩ := hF
  refine va_put h1.1 h1.2.1 h1.2.2.2.2.2.2.1 f1 ty0 f5 f6 h1.2.2.2.1 h1.2.2.2.2.2.2.2 h5 h6 h7 j (pm_w_get0 hs) f2 k0 f3 (h1.2.2.2.2.2.2.1 _ f4) (fun _ h => h) f7 f8 hn hfit (by rw [pm_f_len]; exact (List.getElem?_eq_some_iff.mp hf).1) hd (fun H1 locs1 hP hD hS => ?_)
  have e1 : (pm_w ad cA μ 0 sh).set j (ad j, .inr (ci, (pm_f ad (μ j) 0 fs).set k0 (.int x))) = pm_w ad cA (pm_up μ j k0 x) 0 sh := by
    rw [pm_f_int fs (μ j) 0 k0 hf, Nat.zero_add]
    exact pm_w_set0 (g := upd (μ j) k0 x) hs
  have hP : va_P D vwCl (pm_w ad cA (pm_up μ j k0 x) 0 sh) H1 := by rw [← e1]; exact hP
  have hD : va_D A (pm_w ad cA (pm_up μ j k0 x) 0 sh) := by rw [← e1]; exact hD
  exact k z hz p e s m args below meth c D cA ad ad0 n0 A H1 locs1 la h1 h2 h3 h4 hP hD hS h8
theorem pv_iret {v : Int32} {ty : FieldType} {x : τ} (hd : decode cc pc = .ok (.ireturn, 1)) (hr : ret = some ty) (hn : narrow ty (.int v) = .int v) (hx : fin x = (some (.int v), μ)) : pm_V l cc own nL ret R g sh kc ks fin sh kc ks pc ls [.int v] μ (some x) := by
  intro z hz p e s m args below meth c D cA ad ad0 n0 A H locs la h1 h2 h3 h4 h5 h6 h7 h8
  cases hz
  rw [hx]
  exact W.zret h1.1 h1.2.1 (h1.2.2.2.2.1.trans hr) hn (fun t ht hW => ⟨⟨rfl, ad, h2, by rw [ht]; exact h5, h6⟩, h7.F ht⟩) h7.2.2 hd h1.2.2.2.2.2.1
theorem pv_zret {v : Int32} {ty : FieldType} {x : τ} (hd : decode cc pc = .ok (.ireturn, 1)) (hr : ret = some .boolean) (hx : fin x = (some (.int v), μ)) : pm_V l cc own nL ret R g sh kc ks fin sh kc ks pc ls [.int v] μ (if v = 0 ∨ v = 1 then some x else none) := by
  intro z hz p e s m args below meth c D cA ad ad0 n0 A H locs la h1 h2 h3 h4 h5 h6 h7 h8
  by_cases hv : v = 0 ∨ v = 1
  · rw [if_pos hv] at hz
    exact pv_iret (l := l) (g := g) (sh := sh) (kc := kc) (ks := ks) (R := R) (ls := ls) hd hr (by rcases hv with rfl | rfl <;> rfl) hx z hz p e s m args below meth c D cA ad ad0 n0 A H locs la h1 h2 h3 h4 h5 h6 h7 h8
  · rw [if_neg hv] at hz; cases hz
theorem pv_lret {v : Int64} {x : τ} (hd : decode cc pc = .ok (.lreturn, 1)) (hr : ret = some .long) (hx : fin x = (some (.long v), μ)) : pm_V l cc own nL ret R g sh kc ks fin sh kc ks pc ls [.long v] μ (some x) := by
  intro z hz p e s m args below meth c D cA ad ad0 n0 A H locs la h1 h2 h3 h4 h5 h6 h7 h8
  cases hz
  rw [hx]
  exact W.lret h1.1 h1.2.1 (h1.2.2.2.2.1.trans hr) (fun t ht hW => ⟨⟨rfl, ad, h2, by rw [ht]; exact h5, h6⟩, h7.F ht⟩) h7.2.2 hd h1.2.2.2.2.2.1
theorem pv_vret {x : τ} (hd : decode cc pc = .ok (.return_, 1)) (hr : ret = none) (hx : fin x = (none, μ)) : pm_V l cc own nL ret R g sh kc ks fin sh kc ks pc ls [] μ (some x) := by
  intro z hz p e s m args below meth c D cA ad ad0 n0 A H locs la h1 h2 h3 h4 h5 h6 h7 h8
  cases hz
  rw [hx]
  exact W.vret h1.1 h1.2.1 (h1.2.2.2.2.1.trans hr) (fun t ht hW => ⟨⟨rfl, ad, h2, by rw [ht]; exact h5, h6⟩, h7.F ht⟩) h7.2.2 hd h1.2.2.2.2.2.1
end PMR
