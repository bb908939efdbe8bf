/-- at the law's pc: place 1000 is the script's -/
def lw_V (l : Launch) (b L : Nat) (xs : Nat → Int32) (pc : Nat) (ls : List (Option Value)) (st : List Value) (μ : pm_M) : Prop :=
  ∀ (p : Program) (e : Env) (s : State) (m : MethodId) (below : List Frame) (meth : Method) (c : Code) (D : va_G) (cA : Nat → ClassId) (ad : Nat → Nat) (H : Heap) (locs : List Loc) (la : Array Slot),
    lw_At p s m meth c b L xs → va_K D vwCl (pm_ty cA) s → ad 1000 = b → va_P D vwCl (pm_w ad cA μ 0 SH) H → va_D (fun q => s.heap.size ≤ q) (pm_w ad cA μ 0 SH) → va_S (fun q => s.heap.size ≤ q) s.heap H locs → lv_has la 4 (pm_l ad 0 ls) →
    W p l e room_1 s m #[Value.ref b] below meth c H locs 68 5456 (lw_Z below #[Value.ref b] s) (F0 m pc la (st.map (pm_v ad)))
section LWR
variable {l : Launch} {b L : Nat} {xs : Nat → Int32} {pc : Nat} {ls : List (Option Value)} {st : List Value} {μ : pm_M} {idx : Nat}
theorem lx_iconst {n : Int} {v : Int32} (hd : decode cL_law pc = .ok (.iconst n, 1)) (hv : Int32.ofInt n = v) (k : lw_V l b L xs (pc + 1) ls (.int v :: st) μ) : lw_V l b L xs pc ls (st) μ := by
  intro p e s m below meth c D cA ad H locs la h1 h2 h3 h4 h5 h6 h7
  exact lv_iconst h1.1 h1.2.1 hd hv (k p e s m below meth c D cA ad H locs la h1 h2 h3 h4 h5 h6 h7)
theorem lx_bipush {n : Int} {v : Int32} (hd : decode cL_law pc = .ok (.bipush n, 2)) (hv : (Int8.ofInt n).toInt32 = v) (k : lw_V l b L xs (pc + 2) ls (.int v :: st) μ) : lw_V l b L xs pc ls (st) μ := by
  intro p e s m below meth c D cA ad H locs la h1 h2 h3 h4 h5 h6 h7
  exact lv_bipush h1.1 h1.2.1 hd hv (k p e s m below meth c D cA ad H locs la h1 h2 h3 h4 h5 h6 h7)
theorem lx_iload_n {i : Fin 4} {x : Int32} (hd : decode cL_law pc = .ok (.iload_n i, 1)) (hl : ls[(i : Nat)]? = some (some (.int x))) (k : lw_V l b L xs (pc + 1) ls (.int x :: st) μ) : lw_V l b L xs pc ls (st) μ := by
  intro p e s m below meth c D cA ad H locs la h1 h2 h3 h4 h5 h6 h7
  exact lv_iload_n h1.1 h1.2.1 hd rfl (pm_l_at h7 hl) (k p e s m below meth c D cA ad H locs la h1 h2 h3 h4 h5 h6 h7)
theorem lx_aload_n {i : Fin 4} {x : Nat} (hd : decode cL_law pc = .ok (.aload_n i, 1)) (hl : ls[(i : Nat)]? = some (some (.ref x))) (k : lw_V l b L xs (pc + 1) ls (.ref x :: st) μ) : lw_V l b L xs pc ls (st) μ := by
  intro p e s m below meth c D cA ad H locs la h1 h2 h3 h4 h5 h6 h7
  exact lv_aload_n h1.1 h1.2.1 hd rfl (pm_l_at h7 hl) (k p e s m below meth c D cA ad H locs la h1 h2 h3 h4 h5 h6 h7)
theorem lx_iadd {x y : Int32} (hd : decode cL_law pc = .ok (.iadd, 1)) (k : lw_V l b L xs (pc + 1) ls (.int (x + y) :: st) μ) : lw_V l b L xs pc ls (.int y :: .int x :: st) μ := by
  intro p e s m below meth c D cA ad H locs la h1 h2 h3 h4 h5 h6 h7
  exact lv_iadd h1.1 h1.2.1 hd (k p e s m below meth c D cA ad H locs la h1 h2 h3 h4 h5 h6 h7)
theorem lx_isub {x y : Int32} (hd : decode cL_law pc = .ok (.isub, 1)) (k : lw_V l b L xs (pc + 1) ls (.int (x - y) :: st) μ) : lw_V l b L xs pc ls (.int y :: .int x :: st) μ := by
  intro p e s m below meth c D cA ad H locs la h1 h2 h3 h4 h5 h6 h7
  exact lv_isub h1.1 h1.2.1 hd (k p e s m below meth c D cA ad H locs la h1 h2 h3 h4 h5 h6 h7)
theorem lx_iand {x y : Int32} (hd : decode cL_law pc = .ok (.iand, 1)) (k : lw_V l b L xs (pc + 1) ls (.int (x &&& y) :: st) μ) : lw_V l b L xs pc ls (.int y :: .int x :: st) μ := by
  intro p e s m below meth c D cA ad H locs la h1 h2 h3 h4 h5 h6 h7
  exact lv_iand h1.1 h1.2.1 hd (k p e s m below meth c D cA ad H locs la h1 h2 h3 h4 h5 h6 h7)
theorem lx_lcmp {x y : Int64} (hd : decode cL_law pc = .ok (.lcmp, 1)) (k : lw_V l b L xs (pc + 1) ls (.int (lg_cmp x y) :: st) μ) : lw_V l b L xs pc ls (.long y :: .long x :: st) μ := by
  intro p e s m below meth c D cA ad H locs la h1 h2 h3 h4 h5 h6 h7
  exact W.lcmp h1.1 h1.2.1 hd (k p e s m below meth c D cA ad H locs la h1 h2 h3 h4 h5 h6 h7)
theorem lx_goto {off : Int} {tgt : Nat} (hd : decode cL_law pc = .ok (.goto off, 3)) (ht : (pc : Int) + off = (tgt : Int)) (k : lw_V l b L xs tgt ls st μ) : lw_V l b L xs pc ls st μ := by
  intro p e s m below meth c D cA ad H locs la h1 h2 h3 h4 h5 h6 h7
  exact lv_goto h1.1 h1.2.1 hd ht (k p e s m below meth c D cA ad H locs la h1 h2 h3 h4 h5 h6 h7)
theorem lx_eq {x y : Int32} {off : Int} {tgt : Nat} (hd : decode cL_law pc = .ok (.if_icmp .eq off, 3)) (ht : (pc : Int) + off = (tgt : Int)) (he : x = y) (k : lw_V l b L xs tgt ls st μ) : lw_V l b L xs pc ls (.int y :: .int x :: st) μ := by
  intro p e s m below meth c D cA ad H locs la h1 h2 h3 h4 h5 h6 h7
  exact lv_icmp_eq h1.1 h1.2.1 hd ht (fun _ => k p e s m below meth c D cA ad H locs la h1 h2 h3 h4 h5 h6 h7) (fun h => absurd he h)
theorem lx_gt {x y : Int32} {off : Int} {tgt : Nat} (hd : decode cL_law pc = .ok (.if_icmp .gt off, 3)) (ht : (pc : Int) + off = (tgt : Int)) (k1 : y < x → lw_V l b L xs tgt ls st μ) (k2 : ¬ y < x → lw_V l b L xs (pc + 3) ls st μ) : lw_V l b L xs pc ls (.int y :: .int x :: st) μ := by
  intro p e s m below meth c D cA ad H locs la h1 h2 h3 h4 h5 h6 h7
  exact lv_icmp_gt h1.1 h1.2.1 hd ht (fun h => k1 h p e s m below meth c D cA ad H locs la h1 h2 h3 h4 h5 h6 h7) (fun h => k2 h p e s m below meth c D cA ad H locs la h1 h2 h3 h4 h5 h6 h7)
theorem lx_if_eq {x : Int32} {off : Int} {tgt : Nat} (hd : decode cL_law pc = .ok (.ifCond .eq off, 3)) (ht : (pc : Int) + off = (tgt : Int)) (k1 : x = 0 → lw_V l b L xs tgt ls st μ) (k2 : ¬ x = 0 → lw_V l b L xs (pc + 3) ls st μ) : lw_V l b L xs pc ls (.int x :: st) μ := by
  intro p e s m below meth c D cA ad H locs la h1 h2 h3 h4 h5 h6 h7
  exact lv_if_eq h1.1 h1.2.1 hd ht (fun h => k1 h p e s m below meth c D cA ad H locs la h1 h2 h3 h4 h5 h6 h7) (fun h => k2 h p e s m below meth c D cA ad H locs la h1 h2 h3 h4 h5 h6 h7)
theorem lx_iinc {i : Nat} {n : Int} {x v : Int32} {ls' : List (Option Value)} (hd : decode cL_law pc = .ok (.iinc i n, 3)) (hi : ls[i]? = some (some (.int x))) (hv : x + Int32.ofInt n = v) (hn : i < 4) (hl : pm_st1 ls i (.int v) = ls') (k : lw_V l b L xs (pc + 3) ls' st μ) : lw_V l b L xs pc ls st μ := by
  intro p e s m below meth c D cA ad H locs la h1 h2 h3 h4 h5 h6 h7
  subst hl
  have hm := (pm_l_mem (ad := ad) ls 0 (i, pm_v ad (.int x))).mpr ⟨i, _, hi, by rw [Nat.zero_add]⟩
  obtain ⟨kk, hkk⟩ := List.getElem?_of_mem hm
  refine lv_iinc (lv := pm_l ad 0 ls) (lv' := _) h1.1 h1.2.1 hd h7 hkk hv hn rfl (fun la' hla => k p e s m below meth c D cA ad H locs la' h1 h2 h3 h4 h5 h6 ⟨hla.1, hla.2.1, fun q hq => hla.2.2 q ?_⟩)
  exact pm_st1_mem hq
theorem lx_sld {i : Int32} (hd : decode cL_law pc = .ok (.iaload, 1)) (hin : vp_in i L) (k : lw_V l b L xs (pc + 1) ls (.int (xs i.toNatClampNeg) :: st) μ) : lw_V l b L xs pc ls (.int i :: .ref 1000 :: st) μ := by
  intro p e s m below meth c D cA ad H locs la h1 h2 h3 h4 h5 h6 h7
  have hg := k p e s m below meth c D cA ad H locs la h1 h2 h3 h4 h5 h6 h7
  subst h3
  exact va_sld h1.1 h1.2.1 h1.2.2.2.2.2.2.1 h1.2.2.2.2.2.2.2.1 (A := fun q => s.heap.size ≤ q) (Nat.not_le.mpr h1.2.2.2.2.2.2.2.1) h6 hin hd hg
theorem lx_slen (hd : decode cL_law pc = .ok (.arraylength, 1)) (k : lw_V l b L xs (pc + 1) ls (.int (Int32.ofNat L) :: st) μ) : lw_V l b L xs pc ls (.ref 1000 :: st) μ := by
  intro p e s m below meth c D cA ad H locs la h1 h2 h3 h4 h5 h6 h7
  have hg := k p e s m below meth c D cA ad H locs la h1 h2 h3 h4 h5 h6 h7
  subst h3
  exact va_slen h1.1 h1.2.1 h1.2.2.2.2.2.2.1 h1.2.2.2.2.2.2.2.1 (A := fun q => s.heap.size ≤ q) (Nat.not_le.mpr h1.2.2.2.2.2.2.2.1) h6 hd hg
theorem lx_ret (hd : decode cL_law pc = .ok (.ireturn, 1)) : lw_V l b L xs pc ls [.int 1] μ := by
  intro p e s m below meth c D cA ad H locs la h1 h2 h3 h4 h5 h6 h7
  exact va_forget h6.2.2 (lw_ret h1.1 h1.2.1 h1.2.2.1 h1.2.2.2.2.2.2.2.2.1 hd)
theorem lx_call {τ' : Type} {n nL' j ci N : Nat} {y : MethodName} {cc' : ByteArray} {ret' : Option FieldType} {R' : Room} {rest as : List Value} {fin' : τ' → Option Value × pm_M} {oc : Option τ'} {x : τ'} {T : u_T} {fs : List (Option Value)} {st' : List Value} {μ' : pm_M} (hd : decode cL_law pc = .ok (.invokevirtual idx, 3)) (hY : pm_Y y cc' nL' ret' n) (hL : pm_LV RL idx y) (hok : pm_Ok l y cc' nL' ret' R' (.ref j :: as) SH false SH 0 0 fin' μ oc) (hx : oc = some x) (hs : SH[j]? = some (.inr (ci, fs))) (hc : vwCl[ci]? = some (y.cls, T, N)) (hn : as.length = n) (hr : pm_rm R' nL' room_1 0 0) (hw : (rest.map fun v => v.category).sum ≤ 8) (hst : st = as.reverse ++ .ref j :: rest) (hv : ∀ ad, (fin' x).1.toList.map (pm_v ad) = (fin' x).1.toList) (hst' : (fin' x).1.toList ++ rest = st') (hμ' : (fin' x).2 = μ')
    (k : lw_V l b L xs (pc + 3) ls st' μ') : lw_V l b L xs pc ls st μ := by
  intro p e s m below meth c D cA ad H locs la h1 h2 h3 h4 h5 h6 h7
  obtain ⟨n1, hn1⟩ := pm_w_ad SH 0
  have hM := hok x hx D cA ad n1 H.size (fun h => by cases h)
  have hts : ∀ w ∈ pm_T, w.before #[Value.ref b] s = true := fun w hw => h1.2.2.2.2.2.1 w (List.mem_filter.mp hw).1
  have hpre := pm_pre h2 h4 h5 ((Value.ref j :: as).map (pm_v ad))
  have hcat : (rest.map (pm_v ad)).map (fun v => v.category) = rest.map (fun v => v.category) := by
    rw [List.map_map]; exact List.map_congr_left (fun v _ => pm_cat ad v)
  have hstk : st.map (pm_v ad) = (as.map (pm_v ad)).reverse ++ Value.ref (ad j) :: rest.map (pm_v ad) := by rw [hst, List.map_append, List.map_reverse]; rfl
  have hrun : va_Run p l e room_1 s m #[Value.ref b] below meth c H locs 68 5456 0 0 (F0 m pc la (st.map (pm_v ad))) (rest.map (pm_v ad)) (pm_Q D cA ad n1 SH (fin' x).1 (fin' x).2 (va_A (pm_w ad cA μ 0 SH) H.size) (Value.ref (ad j) :: as.map (pm_v ad)).toArray) (va_A (pm_w ad cA μ 0 SH) H.size) :=
    va_runV (n := n) (cc := cL_law) (C := y.cls) ⟨h1.1, h1.2.1, h1.2.2.2.1, h1.2.2.2.2.1, hts⟩ hM ⟨pm_cb hts hY hL.1 hr, hts _ hL.2.1, hts _ hL.2.2⟩ ⟨hpre.1, va_recv h2 h4 hc (pm_w_get0 hs), hpre.2⟩ rfl (by rw [List.length_map]; exact hn) h7.1 hstk (by rw [hcat]; show 2 * 0 + _ ≤ 8; omega) hd ⟨Nat.le_of_ble_eq_true rfl, Nat.le_of_ble_eq_true rfl⟩
  refine pm_after hrun (fun q h => h) h5 h6 (fun ad' H1 locs1 ha hP hD hS => ?_)
  rw [hn1 ad ad' cA (fin' x).2 ha] at hP hD
  subst hst'
  subst hμ'
  have hg := k p e s m below meth c D cA ad H1 locs1 la h1 h2 h3 hP hD hS h7
  rw [List.map_append, hv ad] at hg
  exact hg
theorem lx_table {x : Int32} {dflt lo hi : Int} {offs : Array Int} {len tD : Nat} {kys : List Int32} {ts : List Nat} (hd : decode cL_law pc = .ok (.tableswitch dflt lo hi offs, len)) (hl : kys.length = ts.length) (hks : kys.map Int32.toInt = (List.range kys.length).map (fun i : Nat => lo + (i : Int))) (hhi : hi + 1 = lo + (kys.length : Int)) (hof : offs.toList = ts.map (fun t : Nat => (t : Int) - (pc : Int))) (hD : (pc : Int) + dflt = (tD : Int))
    (k : ∀ (i t : Nat), kys[i]? = some x → ts[i]? = some t → lw_V l b L xs t ls st μ) (kd : lw_V l b L xs tD ls st μ) : lw_V l b L xs pc ls (.int x :: st) μ := by
  have key : ∀ (i : Nat) (a : Int32), kys[i]? = some a → a.toInt = lo + (i : Int) := by
    intro i a h
    have h2 : (kys.map Int32.toInt)[i]? = some a.toInt := by rw [List.getElem?_map, h]; rfl
    rw [hks, List.getElem?_map, List.getElem?_range (List.getElem?_eq_some_iff.mp h).1] at h2
    exact (Option.some.inj h2).symm
  intro p e s m below meth c D cA ad H locs la h1 h2 h3 h4 h5 h6 h7
  by_cases q : x.toInt < lo ∨ hi < x.toInt
  · exact lv_tableOut h1.1 h1.2.1 hd (tgt := tD) q hD (kd p e s m below meth c D cA ad H locs la h1 h2 h3 h4 h5 h6 h7)
  · have hlt : (x.toInt - lo).toNat < kys.length := by omega
    have h9 := key _ _ (List.getElem?_eq_getElem hlt)
    have h10 : kys[(x.toInt - lo).toNat] = x := Int32.toInt_inj.mp (by rw [h9]; omega)
    have hlt2 : (x.toInt - lo).toNat < ts.length := by omega
    refine lv_tableIn h1.1 h1.2.1 hd (off := (ts[(x.toInt - lo).toNat] : Int) - pc) (tgt := ts[(x.toInt - lo).toNat]) (by omega) (by omega) ?_ (by omega) (k _ _ (by rw [List.getElem?_eq_getElem hlt, h10]) (List.getElem?_eq_getElem hlt2) p e s m below meth c D cA ad H locs la h1 h2 h3 h4 h5 h6 h7)
    rw [← Array.getElem?_toList, hof, List.getElem?_map, List.getElem?_eq_getElem hlt2]
    rfl
end LWR
theorem lc_0 {l : Launch} {b L : Nat} {xs : Nat → Int32} {i : Int32} {μ μ1 μ2 : pm_M} {r : Int32} (h1 : vp_in (i + 1) L) (h2 : vp_in (i + 2) L) (h3 : vp_in (i + 3) L) (hx : f_X9_pale (xs (i + 1).toNatClampNeg) (xs (i + 2).toNatClampNeg) (xs (i + 3).toNatClampNeg) μ = some (r, μ1)) (hm : f_X10_pale (xs (i + 1).toNatClampNeg) (xs (i + 2).toNatClampNeg) (xs (i + 3).toNatClampNeg) μ1 = some (r, μ2)) (k : lw_V l b L xs 937 [some (.ref 1000), some (.ref 0), some (.ref 50), some (.int i)] [] μ2) : lw_V l b L xs 152 [some (.ref 1000), some (.ref 0), some (.ref 50), some (.int i)] [] μ := by
  refine lx_aload_n dL_law_152 rfl ?_
  refine lx_aload_n dL_law_153 rfl ?_
  refine lx_iload_n dL_law_154 rfl ?_
  refine lx_iconst (v := 1) dL_law_155 (by decide) ?_
  refine lx_iadd dL_law_156 ?_
  refine lx_sld dL_law_157 h1 ?_
  refine lx_aload_n dL_law_158 rfl ?_
  refine lx_iload_n dL_law_159 rfl ?_
  refine lx_iconst (v := 2) dL_law_160 (by decide) ?_
  refine lx_iadd dL_law_161 ?_
  refine lx_sld dL_law_162 h2 ?_
  refine lx_aload_n dL_law_163 rfl ?_
  refine lx_iload_n dL_law_164 rfl ?_
  refine lx_iconst (v := 3) dL_law_165 (by decide) ?_
  refine lx_iadd dL_law_166 ?_
  refine lx_sld dL_law_167 h3 ?_
  refine lx_call (rest := []) (st' := [.int r]) (μ' := μ1) dL_law_168 my_X9_pale vl_L_13 (k_X9_pale l (xs (i + 1).toNatClampNeg) (xs (i + 2).toNatClampNeg) (xs (i + 3).toNatClampNeg) μ) hx sh_0 rfl rfl ⟨rfl, rfl, Nat.le_of_ble_eq_true rfl, Nat.le_of_ble_eq_true rfl⟩ (Nat.le_of_ble_eq_true rfl) rfl (fun _ => rfl) rfl rfl ?_
  refine lx_aload_n dL_law_171 rfl ?_
  refine lx_aload_n dL_law_172 rfl ?_
  refine lx_iload_n dL_law_173 rfl ?_
  refine lx_iconst (v := 1) dL_law_174 (by decide) ?_
  refine lx_iadd dL_law_175 ?_
  refine lx_sld dL_law_176 h1 ?_
  refine lx_aload_n dL_law_177 rfl ?_
  refine lx_iload_n dL_law_178 rfl ?_
  refine lx_iconst (v := 2) dL_law_179 (by decide) ?_
  refine lx_iadd dL_law_180 ?_
  refine lx_sld dL_law_181 h2 ?_
  refine lx_aload_n dL_law_182 rfl ?_
  refine lx_iload_n dL_law_183 rfl ?_
  refine lx_iconst (v := 3) dL_law_184 (by decide) ?_
  refine lx_iadd dL_law_185 ?_
  refine lx_sld dL_law_186 h3 ?_
  refine lx_call (rest := [.int r]) (st' := [.int r, .int r]) (μ' := μ2) dL_law_187 my_X10_pale vl_L_17 (k_X10_pale l (xs (i + 1).toNatClampNeg) (xs (i + 2).toNatClampNeg) (xs (i + 3).toNatClampNeg) μ1) hm sh_50 rfl rfl ⟨rfl, rfl, Nat.le_of_ble_eq_true rfl, Nat.le_of_ble_eq_true rfl⟩ (Nat.le_of_ble_eq_true rfl) rfl (fun _ => rfl) rfl rfl ?_
  refine lx_eq (tgt := 937) dL_law_190 (by decide) rfl ?_
  exact k
theorem lc_1 {l : Launch} {b L : Nat} {xs : Nat → Int32} {i : Int32} {μ μ1 μ2 : pm_M} {r : Int32} (h1 : vp_in (i + 1) L) (h2 : vp_in (i + 2) L) (h3 : vp_in (i + 3) L) (hx : f_X9_road (xs (i + 1).toNatClampNeg) (xs (i + 2).toNatClampNeg) (xs (i + 3).toNatClampNeg) μ = some (r, μ1)) (hm : f_X10_road (xs (i + 1).toNatClampNeg) (xs (i + 2).toNatClampNeg) (xs (i + 3).toNatClampNeg) μ1 = some (r, μ2)) (k : lw_V l b L xs 937 [some (.ref 1000), some (.ref 0), some (.ref 50), some (.int i)] [] μ2) : lw_V l b L xs 195 [some (.ref 1000), some (.ref 0), some (.ref 50), some (.int i)] [] μ := by
  refine lx_aload_n dL_law_195 rfl ?_
  refine lx_aload_n dL_law_196 rfl ?_
  refine lx_iload_n dL_law_197 rfl ?_
  refine lx_iconst (v := 1) dL_law_198 (by decide) ?_
  refine lx_iadd dL_law_199 ?_
  refine lx_sld dL_law_200 h1 ?_
  refine lx_aload_n dL_law_201 rfl ?_
  refine lx_iload_n dL_law_202 rfl ?_
  refine lx_iconst (v := 2) dL_law_203 (by decide) ?_
  refine lx_iadd dL_law_204 ?_
  refine lx_sld dL_law_205 h2 ?_
  refine lx_aload_n dL_law_206 rfl ?_
  refine lx_iload_n dL_law_207 rfl ?_
  refine lx_iconst (v := 3) dL_law_208 (by decide) ?_
  refine lx_iadd dL_law_209 ?_
  refine lx_sld dL_law_210 h3 ?_
  refine lx_call (rest := []) (st' := [.int r]) (μ' := μ1) dL_law_211 my_X9_road vl_L_18 (k_X9_road l (xs (i + 1).toNatClampNeg) (xs (i + 2).toNatClampNeg) (xs (i + 3).toNatClampNeg) μ) hx sh_0 rfl rfl ⟨rfl, rfl, Nat.le_of_ble_eq_true rfl, Nat.le_of_ble_eq_true rfl⟩ (Nat.le_of_ble_eq_true rfl) rfl (fun _ => rfl) rfl rfl ?_
  refine lx_aload_n dL_law_214 rfl ?_
  refine lx_aload_n dL_law_215 rfl ?_
  refine lx_iload_n dL_law_216 rfl ?_
  refine lx_iconst (v := 1) dL_law_217 (by decide) ?_
  refine lx_iadd dL_law_218 ?_
  refine lx_sld dL_law_219 h1 ?_
  refine lx_aload_n dL_law_220 rfl ?_
  refine lx_iload_n dL_law_221 rfl ?_
  refine lx_iconst (v := 2) dL_law_222 (by decide) ?_
  refine lx_iadd dL_law_223 ?_
  refine lx_sld dL_law_224 h2 ?_
  refine lx_aload_n dL_law_225 rfl ?_
  refine lx_iload_n dL_law_226 rfl ?_
  refine lx_iconst (v := 3) dL_law_227 (by decide) ?_
  refine lx_iadd dL_law_228 ?_
  refine lx_sld dL_law_229 h3 ?_
  refine lx_call (rest := [.int r]) (st' := [.int r, .int r]) (μ' := μ2) dL_law_230 my_X10_road vl_L_21 (k_X10_road l (xs (i + 1).toNatClampNeg) (xs (i + 2).toNatClampNeg) (xs (i + 3).toNatClampNeg) μ1) hm sh_50 rfl rfl ⟨rfl, rfl, Nat.le_of_ble_eq_true rfl, Nat.le_of_ble_eq_true rfl⟩ (Nat.le_of_ble_eq_true rfl) rfl (fun _ => rfl) rfl rfl ?_
  refine lx_eq (tgt := 937) dL_law_233 (by decide) rfl ?_
  exact k
theorem lc_2 {l : Launch} {b L : Nat} {xs : Nat → Int32} {i : Int32} {μ μ1 μ2 : pm_M} {r : Int32} (h1 : vp_in (i + 1) L) (h2 : vp_in (i + 2) L) (h3 : vp_in (i + 3) L) (hx : f_X9_farm (xs (i + 1).toNatClampNeg) (xs (i + 2).toNatClampNeg) (xs (i + 3).toNatClampNeg) μ = some (r, μ1)) (hm : f_X10_farm (xs (i + 1).toNatClampNeg) (xs (i + 2).toNatClampNeg) (xs (i + 3).toNatClampNeg) μ1 = some (r, μ2)) (k : lw_V l b L xs 937 [some (.ref 1000), some (.ref 0), some (.ref 50), some (.int i)] [] μ2) : lw_V l b L xs 238 [some (.ref 1000), some (.ref 0), some (.ref 50), some (.int i)] [] μ := by
  refine lx_aload_n dL_law_238 rfl ?_
  refine lx_aload_n dL_law_239 rfl ?_
  refine lx_iload_n dL_law_240 rfl ?_
  refine lx_iconst (v := 1) dL_law_241 (by decide) ?_
  refine lx_iadd dL_law_242 ?_
  refine lx_sld dL_law_243 h1 ?_
  refine lx_aload_n dL_law_244 rfl ?_
  refine lx_iload_n dL_law_245 rfl ?_
  refine lx_iconst (v := 2) dL_law_246 (by decide) ?_
  refine lx_iadd dL_law_247 ?_
  refine lx_sld dL_law_248 h2 ?_
  refine lx_aload_n dL_law_249 rfl ?_
  refine lx_iload_n dL_law_250 rfl ?_
  refine lx_iconst (v := 3) dL_law_251 (by decide) ?_
  refine lx_iadd dL_law_252 ?_
  refine lx_sld dL_law_253 h3 ?_
  refine lx_call (rest := []) (st' := [.int r]) (μ' := μ1) dL_law_254 my_X9_farm vl_L_22 (k_X9_farm l (xs (i + 1).toNatClampNeg) (xs (i + 2).toNatClampNeg) (xs (i + 3).toNatClampNeg) μ) hx sh_0 rfl rfl ⟨rfl, rfl, Nat.le_of_ble_eq_true rfl, Nat.le_of_ble_eq_true rfl⟩ (Nat.le_of_ble_eq_true rfl) rfl (fun _ => rfl) rfl rfl ?_
  refine lx_aload_n dL_law_257 rfl ?_
  refine lx_aload_n dL_law_258 rfl ?_
  refine lx_iload_n dL_law_259 rfl ?_
  refine lx_iconst (v := 1) dL_law_260 (by decide) ?_
  refine lx_iadd dL_law_261 ?_
  refine lx_sld dL_law_262 h1 ?_
  refine lx_aload_n dL_law_263 rfl ?_
  refine lx_iload_n dL_law_264 rfl ?_
  refine lx_iconst (v := 2) dL_law_265 (by decide) ?_
  refine lx_iadd dL_law_266 ?_
  refine lx_sld dL_law_267 h2 ?_
  refine lx_aload_n dL_law_268 rfl ?_
  refine lx_iload_n dL_law_269 rfl ?_
  refine lx_iconst (v := 3) dL_law_270 (by decide) ?_
  refine lx_iadd dL_law_271 ?_
  refine lx_sld dL_law_272 h3 ?_
  refine lx_call (rest := [.int r]) (st' := [.int r, .int r]) (μ' := μ2) dL_law_273 my_X10_farm vl_L_25 (k_X10_farm l (xs (i + 1).toNatClampNeg) (xs (i + 2).toNatClampNeg) (xs (i + 3).toNatClampNeg) μ1) hm sh_50 rfl rfl ⟨rfl, rfl, Nat.le_of_ble_eq_true rfl, Nat.le_of_ble_eq_true rfl⟩ (Nat.le_of_ble_eq_true rfl) rfl (fun _ => rfl) rfl rfl ?_
  refine lx_eq (tgt := 937) dL_law_276 (by decide) rfl ?_
  exact k
theorem lc_3 {l : Launch} {b L : Nat} {xs : Nat → Int32} {i : Int32} {μ μ1 μ2 : pm_M} {r : Int32} (h1 : vp_in (i + 1) L) (h2 : vp_in (i + 2) L) (h3 : vp_in (i + 3) L) (hx : f_X9_likes (xs (i + 1).toNatClampNeg) (xs (i + 2).toNatClampNeg) (xs (i + 3).toNatClampNeg) μ = some (r, μ1)) (hm : f_X10_likes (xs (i + 1).toNatClampNeg) (xs (i + 2).toNatClampNeg) (xs (i + 3).toNatClampNeg) μ1 = some (r, μ2)) (k : lw_V l b L xs 937 [some (.ref 1000), some (.ref 0), some (.ref 50), some (.int i)] [] μ2) : lw_V l b L xs 281 [some (.ref 1000), some (.ref 0), some (.ref 50), some (.int i)] [] μ := by
  refine lx_aload_n dL_law_281 rfl ?_
  refine lx_aload_n dL_law_282 rfl ?_
  refine lx_iload_n dL_law_283 rfl ?_
  refine lx_iconst (v := 1) dL_law_284 (by decide) ?_
  refine lx_iadd dL_law_285 ?_
  refine lx_sld dL_law_286 h1 ?_
  refine lx_aload_n dL_law_287 rfl ?_
  refine lx_iload_n dL_law_288 rfl ?_
  refine lx_iconst (v := 2) dL_law_289 (by decide) ?_
  refine lx_iadd dL_law_290 ?_
  refine lx_sld dL_law_291 h2 ?_
  refine lx_aload_n dL_law_292 rfl ?_
  refine lx_iload_n dL_law_293 rfl ?_
  refine lx_iconst (v := 3) dL_law_294 (by decide) ?_
  refine lx_iadd dL_law_295 ?_
  refine lx_sld dL_law_296 h3 ?_
  refine lx_call (rest := []) (st' := [.int r]) (μ' := μ1) dL_law_297 my_X9_likes vl_L_26 (k_X9_likes l (xs (i + 1).toNatClampNeg) (xs (i + 2).toNatClampNeg) (xs (i + 3).toNatClampNeg) μ) hx sh_0 rfl rfl ⟨rfl, rfl, Nat.le_of_ble_eq_true rfl, Nat.le_of_ble_eq_true rfl⟩ (Nat.le_of_ble_eq_true rfl) rfl (fun _ => rfl) rfl rfl ?_
  refine lx_aload_n dL_law_300 rfl ?_
  refine lx_aload_n dL_law_301 rfl ?_
  refine lx_iload_n dL_law_302 rfl ?_
  refine lx_iconst (v := 1) dL_law_303 (by decide) ?_
  refine lx_iadd dL_law_304 ?_
  refine lx_sld dL_law_305 h1 ?_
  refine lx_aload_n dL_law_306 rfl ?_
  refine lx_iload_n dL_law_307 rfl ?_
  refine lx_iconst (v := 2) dL_law_308 (by decide) ?_
  refine lx_iadd dL_law_309 ?_
  refine lx_sld dL_law_310 h2 ?_
  refine lx_aload_n dL_law_311 rfl ?_
  refine lx_iload_n dL_law_312 rfl ?_
  refine lx_iconst (v := 3) dL_law_313 (by decide) ?_
  refine lx_iadd dL_law_314 ?_
  refine lx_sld dL_law_315 h3 ?_
  refine lx_call (rest := [.int r]) (st' := [.int r, .int r]) (μ' := μ2) dL_law_316 my_X10_likes vl_L_29 (k_X10_likes l (xs (i + 1).toNatClampNeg) (xs (i + 2).toNatClampNeg) (xs (i + 3).toNatClampNeg) μ1) hm sh_50 rfl rfl ⟨rfl, rfl, Nat.le_of_ble_eq_true rfl, Nat.le_of_ble_eq_true rfl⟩ (Nat.le_of_ble_eq_true rfl) rfl (fun _ => rfl) rfl rfl ?_
  refine lx_eq (tgt := 937) dL_law_319 (by decide) rfl ?_
  exact k
theorem lc_4 {l : Launch} {b L : Nat} {xs : Nat → Int32} {i : Int32} {μ μ1 μ2 : pm_M} {r : Int32} (h1 : vp_in (i + 1) L) (hx : f_X9_say (xs (i + 1).toNatClampNeg) μ = some (r, μ1)) (hm : f_X10_say (xs (i + 1).toNatClampNeg) μ1 = some (r, μ2)) (k : lw_V l b L xs 937 [some (.ref 1000), some (.ref 0), some (.ref 50), some (.int i)] [] μ2) : lw_V l b L xs 324 [some (.ref 1000), some (.ref 0), some (.ref 50), some (.int i)] [] μ := by
  refine lx_aload_n dL_law_324 rfl ?_
  refine lx_aload_n dL_law_325 rfl ?_
  refine lx_iload_n dL_law_326 rfl ?_
  refine lx_iconst (v := 1) dL_law_327 (by decide) ?_
  refine lx_iadd dL_law_328 ?_
  refine lx_sld dL_law_329 h1 ?_
  refine lx_call (rest := []) (st' := [.int r]) (μ' := μ1) dL_law_330 my_X9_say vl_L_30 (k_X9_say l (xs (i + 1).toNatClampNeg) μ) hx sh_0 rfl rfl ⟨rfl, rfl, Nat.le_of_ble_eq_true rfl, Nat.le_of_ble_eq_true rfl⟩ (Nat.le_of_ble_eq_true rfl) rfl (fun _ => rfl) rfl rfl ?_
  refine lx_aload_n dL_law_333 rfl ?_
  refine lx_aload_n dL_law_334 rfl ?_
  refine lx_iload_n dL_law_335 rfl ?_
  refine lx_iconst (v := 1) dL_law_336 (by decide) ?_
  refine lx_iadd dL_law_337 ?_
  refine lx_sld dL_law_338 h1 ?_
  refine lx_call (rest := [.int r]) (st' := [.int r, .int r]) (μ' := μ2) dL_law_339 my_X10_say vl_L_34 (k_X10_say l (xs (i + 1).toNatClampNeg) μ1) hm sh_50 rfl rfl ⟨rfl, rfl, Nat.le_of_ble_eq_true rfl, Nat.le_of_ble_eq_true rfl⟩ (Nat.le_of_ble_eq_true rfl) rfl (fun _ => rfl) rfl rfl ?_
  refine lx_eq (tgt := 937) dL_law_342 (by decide) rfl ?_
  exact k
theorem lc_5 {l : Launch} {b L : Nat} {xs : Nat → Int32} {i : Int32} {μ μ1 μ2 : pm_M} {r : Int32} (hx : f_X9_wipe μ = some (r, μ1)) (hm : f_X10_wipe μ1 = some (r, μ2)) (k : lw_V l b L xs 937 [some (.ref 1000), some (.ref 0), some (.ref 50), some (.int i)] [] μ2) : lw_V l b L xs 347 [some (.ref 1000), some (.ref 0), some (.ref 50), some (.int i)] [] μ := by
  refine lx_aload_n dL_law_347 rfl ?_
  refine lx_call (rest := []) (st' := [.int r]) (μ' := μ1) dL_law_348 my_X9_wipe vl_L_35 (k_X9_wipe l μ) hx sh_0 rfl rfl ⟨rfl, rfl, Nat.le_of_ble_eq_true rfl, Nat.le_of_ble_eq_true rfl⟩ (Nat.le_of_ble_eq_true rfl) rfl (fun _ => rfl) rfl rfl ?_
  refine lx_aload_n dL_law_351 rfl ?_
  refine lx_call (rest := [.int r]) (st' := [.int r, .int r]) (μ' := μ2) dL_law_352 my_X10_wipe vl_L_39 (k_X10_wipe l μ1) hm sh_50 rfl rfl ⟨rfl, rfl, Nat.le_of_ble_eq_true rfl, Nat.le_of_ble_eq_true rfl⟩ (Nat.le_of_ble_eq_true rfl) rfl (fun _ => rfl) rfl rfl ?_
  refine lx_eq (tgt := 937) dL_law_355 (by decide) rfl ?_
  exact k
theorem lc_6 {l : Launch} {b L : Nat} {xs : Nat → Int32} {i : Int32} {μ : pm_M} {r : Int32} (hx : f_X9_fault μ = some r) (hm : f_X10_fault μ = some r) (k : lw_V l b L xs 937 [some (.ref 1000), some (.ref 0), some (.ref 50), some (.int i)] [] μ) : lw_V l b L xs 360 [some (.ref 1000), some (.ref 0), some (.ref 50), some (.int i)] [] μ := by
  refine lx_aload_n dL_law_360 rfl ?_
  refine lx_call (rest := []) (st' := [.int r]) (μ' := μ) dL_law_361 my_X9_fault vl_L_40 (k_X9_fault l μ) hx sh_0 rfl rfl ⟨rfl, rfl, Nat.le_of_ble_eq_true rfl, Nat.le_of_ble_eq_true rfl⟩ (Nat.le_of_ble_eq_true rfl) rfl (fun _ => rfl) rfl rfl ?_
  refine lx_aload_n dL_law_364 rfl ?_
  refine lx_call (rest := [.int r]) (st' := [.int r, .int r]) (μ' := μ) dL_law_365 my_X10_fault vl_L_43 (k_X10_fault l μ) hm sh_50 rfl rfl ⟨rfl, rfl, Nat.le_of_ble_eq_true rfl, Nat.le_of_ble_eq_true rfl⟩ (Nat.le_of_ble_eq_true rfl) rfl (fun _ => rfl) rfl rfl ?_
  refine lx_eq (tgt := 937) dL_law_368 (by decide) rfl ?_
  exact k
theorem lc_7 {l : Launch} {b L : Nat} {xs : Nat → Int32} {i : Int32} {μ μ1 μ2 : pm_M} {r : Int32} (h1 : vp_in (i + 1) L) (hx : f_X9_judge (xs (i + 1).toNatClampNeg) μ = some (r, μ1)) (hm : f_X10_judge (xs (i + 1).toNatClampNeg) μ1 = some (r, μ2)) (k : lw_V l b L xs 937 [some (.ref 1000), some (.ref 0), some (.ref 50), some (.int i)] [] μ2) : lw_V l b L xs 373 [some (.ref 1000), some (.ref 0), some (.ref 50), some (.int i)] [] μ := by
  refine lx_aload_n dL_law_373 rfl ?_
  refine lx_aload_n dL_law_374 rfl ?_
  refine lx_iload_n dL_law_375 rfl ?_
  refine lx_iconst (v := 1) dL_law_376 (by decide) ?_
  refine lx_iadd dL_law_377 ?_
  refine lx_sld dL_law_378 h1 ?_
  refine lx_call (rest := []) (st' := [.int r]) (μ' := μ1) dL_law_379 my_X9_judge vl_L_44 (k_X9_judge l (xs (i + 1).toNatClampNeg) μ) hx sh_0 rfl rfl ⟨rfl, rfl, Nat.le_of_ble_eq_true rfl, Nat.le_of_ble_eq_true rfl⟩ (Nat.le_of_ble_eq_true rfl) rfl (fun _ => rfl) rfl rfl ?_
  refine lx_aload_n dL_law_382 rfl ?_
  refine lx_aload_n dL_law_383 rfl ?_
  refine lx_iload_n dL_law_384 rfl ?_
  refine lx_iconst (v := 1) dL_law_385 (by decide) ?_
  refine lx_iadd dL_law_386 ?_
  refine lx_sld dL_law_387 h1 ?_
  refine lx_call (rest := [.int r]) (st' := [.int r, .int r]) (μ' := μ2) dL_law_388 my_X10_judge vl_L_47 (k_X10_judge l (xs (i + 1).toNatClampNeg) μ1) hm sh_50 rfl rfl ⟨rfl, rfl, Nat.le_of_ble_eq_true rfl, Nat.le_of_ble_eq_true rfl⟩ (Nat.le_of_ble_eq_true rfl) rfl (fun _ => rfl) rfl rfl ?_
  refine lx_eq (tgt := 937) dL_law_391 (by decide) rfl ?_
  exact k
theorem lc_8 {l : Launch} {b L : Nat} {xs : Nat → Int32} {i : Int32} {μ μ1 μ2 : pm_M} {r : Int32} (hx : f_X9_done μ = some (r, μ1)) (hm : f_X10_done μ1 = some (r, μ2)) (k : lw_V l b L xs 937 [some (.ref 1000), some (.ref 0), some (.ref 50), some (.int i)] [] μ2) : lw_V l b L xs 396 [some (.ref 1000), some (.ref 0), some (.ref 50), some (.int i)] [] μ := by
  refine lx_aload_n dL_law_396 rfl ?_
  refine lx_call (rest := []) (st' := [.int r]) (μ' := μ1) dL_law_397 my_X9_done vl_L_48 (k_X9_done l μ) hx sh_0 rfl rfl ⟨rfl, rfl, Nat.le_of_ble_eq_true rfl, Nat.le_of_ble_eq_true rfl⟩ (Nat.le_of_ble_eq_true rfl) rfl (fun _ => rfl) rfl rfl ?_
  refine lx_aload_n dL_law_400 rfl ?_
  refine lx_call (rest := [.int r]) (st' := [.int r, .int r]) (μ' := μ2) dL_law_401 my_X10_done vl_L_51 (k_X10_done l μ1) hm sh_50 rfl rfl ⟨rfl, rfl, Nat.le_of_ble_eq_true rfl, Nat.le_of_ble_eq_true rfl⟩ (Nat.le_of_ble_eq_true rfl) rfl (fun _ => rfl) rfl rfl ?_
  refine lx_eq (tgt := 937) dL_law_404 (by decide) rfl ?_
  exact k
theorem lc_9 {l : Launch} {b L : Nat} {xs : Nat → Int32} {i : Int32} {μ μ1 μ2 : pm_M} {r : Int32} (h1 : vp_in (i + 1) L) (h2 : vp_in (i + 2) L) (hx : f_X9_behind (xs (i + 1).toNatClampNeg) (xs (i + 2).toNatClampNeg) μ = some (r, μ1)) (hm : f_X10_behind (xs (i + 1).toNatClampNeg) (xs (i + 2).toNatClampNeg) μ1 = some (r, μ2)) (k : lw_V l b L xs 937 [some (.ref 1000), some (.ref 0), some (.ref 50), some (.int i)] [] μ2) : lw_V l b L xs 409 [some (.ref 1000), some (.ref 0), some (.ref 50), some (.int i)] [] μ := by
  refine lx_aload_n dL_law_409 rfl ?_
  refine lx_aload_n dL_law_410 rfl ?_
  refine lx_iload_n dL_law_411 rfl ?_
  refine lx_iconst (v := 1) dL_law_412 (by decide) ?_
  refine lx_iadd dL_law_413 ?_
  refine lx_sld dL_law_414 h1 ?_
  refine lx_aload_n dL_law_415 rfl ?_
  refine lx_iload_n dL_law_416 rfl ?_
  refine lx_iconst (v := 2) dL_law_417 (by decide) ?_
  refine lx_iadd dL_law_418 ?_
  refine lx_sld dL_law_419 h2 ?_
  refine lx_call (rest := []) (st' := [.int r]) (μ' := μ1) dL_law_420 my_X9_behind vl_L_52 (k_X9_behind l (xs (i + 1).toNatClampNeg) (xs (i + 2).toNatClampNeg) μ) hx sh_0 rfl rfl ⟨rfl, rfl, Nat.le_of_ble_eq_true rfl, Nat.le_of_ble_eq_true rfl⟩ (Nat.le_of_ble_eq_true rfl) rfl (fun _ => rfl) rfl rfl ?_
  refine lx_aload_n dL_law_423 rfl ?_
  refine lx_aload_n dL_law_424 rfl ?_
  refine lx_iload_n dL_law_425 rfl ?_
  refine lx_iconst (v := 1) dL_law_426 (by decide) ?_
  refine lx_iadd dL_law_427 ?_
  refine lx_sld dL_law_428 h1 ?_
  refine lx_aload_n dL_law_429 rfl ?_
  refine lx_iload_n dL_law_430 rfl ?_
  refine lx_iconst (v := 2) dL_law_431 (by decide) ?_
  refine lx_iadd dL_law_432 ?_
  refine lx_sld dL_law_433 h2 ?_
  refine lx_call (rest := [.int r]) (st' := [.int r, .int r]) (μ' := μ2) dL_law_434 my_X10_behind vl_L_56 (k_X10_behind l (xs (i + 1).toNatClampNeg) (xs (i + 2).toNatClampNeg) μ1) hm sh_50 rfl rfl ⟨rfl, rfl, Nat.le_of_ble_eq_true rfl, Nat.le_of_ble_eq_true rfl⟩ (Nat.le_of_ble_eq_true rfl) rfl (fun _ => rfl) rfl rfl ?_
  refine lx_eq (tgt := 937) dL_law_437 (by decide) rfl ?_
  exact k
theorem lc_10 {l : Launch} {b L : Nat} {xs : Nat → Int32} {i : Int32} {μ μ1 μ2 : pm_M} {r : Int32} (h1 : vp_in (i + 1) L) (h2 : vp_in (i + 2) L) (hx : f_X9_goes (xs (i + 1).toNatClampNeg) (xs (i + 2).toNatClampNeg) μ = some (r, μ1)) (hm : f_X10_goes (xs (i + 1).toNatClampNeg) (xs (i + 2).toNatClampNeg) μ1 = some (r, μ2)) (k : lw_V l b L xs 937 [some (.ref 1000), some (.ref 0), some (.ref 50), some (.int i)] [] μ2) : lw_V l b L xs 442 [some (.ref 1000), some (.ref 0), some (.ref 50), some (.int i)] [] μ := by
  refine lx_aload_n dL_law_442 rfl ?_
  refine lx_aload_n dL_law_443 rfl ?_
  refine lx_iload_n dL_law_444 rfl ?_
  refine lx_iconst (v := 1) dL_law_445 (by decide) ?_
  refine lx_iadd dL_law_446 ?_
  refine lx_sld dL_law_447 h1 ?_
  refine lx_aload_n dL_law_448 rfl ?_
  refine lx_iload_n dL_law_449 rfl ?_
  refine lx_iconst (v := 2) dL_law_450 (by decide) ?_
  refine lx_iadd dL_law_451 ?_
  refine lx_sld dL_law_452 h2 ?_
  refine lx_call (rest := []) (st' := [.int r]) (μ' := μ1) dL_law_453 my_X9_goes vl_L_57 (k_X9_goes l (xs (i + 1).toNatClampNeg) (xs (i + 2).toNatClampNeg) μ) hx sh_0 rfl rfl ⟨rfl, rfl, Nat.le_of_ble_eq_true rfl, Nat.le_of_ble_eq_true rfl⟩ (Nat.le_of_ble_eq_true rfl) rfl (fun _ => rfl) rfl rfl ?_
  refine lx_aload_n dL_law_456 rfl ?_
  refine lx_aload_n dL_law_457 rfl ?_
  refine lx_iload_n dL_law_458 rfl ?_
  refine lx_iconst (v := 1) dL_law_459 (by decide) ?_
  refine lx_iadd dL_law_460 ?_
  refine lx_sld dL_law_461 h1 ?_
  refine lx_aload_n dL_law_462 rfl ?_
  refine lx_iload_n dL_law_463 rfl ?_
  refine lx_iconst (v := 2) dL_law_464 (by decide) ?_
  refine lx_iadd dL_law_465 ?_
  refine lx_sld dL_law_466 h2 ?_
  refine lx_call (rest := [.int r]) (st' := [.int r, .int r]) (μ' := μ2) dL_law_467 my_X10_goes vl_L_60 (k_X10_goes l (xs (i + 1).toNatClampNeg) (xs (i + 2).toNatClampNeg) μ1) hm sh_50 rfl rfl ⟨rfl, rfl, Nat.le_of_ble_eq_true rfl, Nat.le_of_ble_eq_true rfl⟩ (Nat.le_of_ble_eq_true rfl) rfl (fun _ => rfl) rfl rfl ?_
  refine lx_eq (tgt := 937) dL_law_470 (by decide) rfl ?_
  exact k
theorem lc_11 {l : Launch} {b L : Nat} {xs : Nat → Int32} {i : Int32} {μ μ1 μ2 : pm_M} {r : Int32} (h1 : vp_in (i + 1) L) (hx : f_X9_then (xs (i + 1).toNatClampNeg) μ = some (r, μ1)) (hm : f_X10_then (xs (i + 1).toNatClampNeg) μ1 = some (r, μ2)) (k : lw_V l b L xs 937 [some (.ref 1000), some (.ref 0), some (.ref 50), some (.int i)] [] μ2) : lw_V l b L xs 475 [some (.ref 1000), some (.ref 0), some (.ref 50), some (.int i)] [] μ := by
  refine lx_aload_n dL_law_475 rfl ?_
  refine lx_aload_n dL_law_476 rfl ?_
  refine lx_iload_n dL_law_477 rfl ?_
  refine lx_iconst (v := 1) dL_law_478 (by decide) ?_
  refine lx_iadd dL_law_479 ?_
  refine lx_sld dL_law_480 h1 ?_
  refine lx_call (rest := []) (st' := [.int r]) (μ' := μ1) dL_law_481 my_X9_then vl_L_61 (k_X9_then l (xs (i + 1).toNatClampNeg) μ) hx sh_0 rfl rfl ⟨rfl, rfl, Nat.le_of_ble_eq_true rfl, Nat.le_of_ble_eq_true rfl⟩ (Nat.le_of_ble_eq_true rfl) rfl (fun _ => rfl) rfl rfl ?_
  refine lx_aload_n dL_law_484 rfl ?_
  refine lx_aload_n dL_law_485 rfl ?_
  refine lx_iload_n dL_law_486 rfl ?_
  refine lx_iconst (v := 1) dL_law_487 (by decide) ?_
  refine lx_iadd dL_law_488 ?_
  refine lx_sld dL_law_489 h1 ?_
  refine lx_call (rest := [.int r]) (st' := [.int r, .int r]) (μ' := μ2) dL_law_490 my_X10_then vl_L_64 (k_X10_then l (xs (i + 1).toNatClampNeg) μ1) hm sh_50 rfl rfl ⟨rfl, rfl, Nat.le_of_ble_eq_true rfl, Nat.le_of_ble_eq_true rfl⟩ (Nat.le_of_ble_eq_true rfl) rfl (fun _ => rfl) rfl rfl ?_
  refine lx_eq (tgt := 937) dL_law_493 (by decide) rfl ?_
  exact k
theorem lc_12 {l : Launch} {b L : Nat} {xs : Nat → Int32} {i : Int32} {μ μ1 μ2 : pm_M} {r : Int32} (h1 : vp_in (i + 1) L) (h2 : vp_in (i + 2) L) (hx : f_X9_round (xs (i + 1).toNatClampNeg) (xs (i + 2).toNatClampNeg) μ = some (r, μ1)) (hm : f_X10_round (xs (i + 1).toNatClampNeg) (xs (i + 2).toNatClampNeg) μ1 = some (r, μ2)) (k : lw_V l b L xs 937 [some (.ref 1000), some (.ref 0), some (.ref 50), some (.int i)] [] μ2) : lw_V l b L xs 498 [some (.ref 1000), some (.ref 0), some (.ref 50), some (.int i)] [] μ := by
  refine lx_aload_n dL_law_498 rfl ?_
  refine lx_aload_n dL_law_499 rfl ?_
  refine lx_iload_n dL_law_500 rfl ?_
  refine lx_iconst (v := 1) dL_law_501 (by decide) ?_
  refine lx_iadd dL_law_502 ?_
  refine lx_sld dL_law_503 h1 ?_
  refine lx_aload_n dL_law_504 rfl ?_
  refine lx_iload_n dL_law_505 rfl ?_
  refine lx_iconst (v := 2) dL_law_506 (by decide) ?_
  refine lx_iadd dL_law_507 ?_
  refine lx_sld dL_law_508 h2 ?_
  refine lx_call (rest := []) (st' := [.int r]) (μ' := μ1) dL_law_509 my_X9_round vl_L_65 (k_X9_round l (xs (i + 1).toNatClampNeg) (xs (i + 2).toNatClampNeg) μ) hx sh_0 rfl rfl ⟨rfl, rfl, Nat.le_of_ble_eq_true rfl, Nat.le_of_ble_eq_true rfl⟩ (Nat.le_of_ble_eq_true rfl) rfl (fun _ => rfl) rfl rfl ?_
  refine lx_aload_n dL_law_512 rfl ?_
  refine lx_aload_n dL_law_513 rfl ?_
  refine lx_iload_n dL_law_514 rfl ?_
  refine lx_iconst (v := 1) dL_law_515 (by decide) ?_
  refine lx_iadd dL_law_516 ?_
  refine lx_sld dL_law_517 h1 ?_
  refine lx_aload_n dL_law_518 rfl ?_
  refine lx_iload_n dL_law_519 rfl ?_
  refine lx_iconst (v := 2) dL_law_520 (by decide) ?_
  refine lx_iadd dL_law_521 ?_
  refine lx_sld dL_law_522 h2 ?_
  refine lx_call (rest := [.int r]) (st' := [.int r, .int r]) (μ' := μ2) dL_law_523 my_X10_round vl_L_68 (k_X10_round l (xs (i + 1).toNatClampNeg) (xs (i + 2).toNatClampNeg) μ1) hm sh_50 rfl rfl ⟨rfl, rfl, Nat.le_of_ble_eq_true rfl, Nat.le_of_ble_eq_true rfl⟩ (Nat.le_of_ble_eq_true rfl) rfl (fun _ => rfl) rfl rfl ?_
  refine lx_eq (tgt := 937) dL_law_526 (by decide) rfl ?_
  exact k
theorem lc_13 {l : Launch} {b L : Nat} {xs : Nat → Int32} {i : Int32} {μ μ1 μ2 : pm_M} {r : Int32} (h1 : vp_in (i + 1) L) (hx : f_X9_mends (xs (i + 1).toNatClampNeg) μ = some (r, μ1)) (hm : f_X10_mends (xs (i + 1).toNatClampNeg) μ1 = some (r, μ2)) (k : lw_V l b L xs 937 [some (.ref 1000), some (.ref 0), some (.ref 50), some (.int i)] [] μ2) : lw_V l b L xs 531 [some (.ref 1000), some (.ref 0), some (.ref 50), some (.int i)] [] μ := by
  refine lx_aload_n dL_law_531 rfl ?_
  refine lx_aload_n dL_law_532 rfl ?_
  refine lx_iload_n dL_law_533 rfl ?_
  refine lx_iconst (v := 1) dL_law_534 (by decide) ?_
  refine lx_iadd dL_law_535 ?_
  refine lx_sld dL_law_536 h1 ?_
  refine lx_call (rest := []) (st' := [.int r]) (μ' := μ1) dL_law_537 my_X9_mends vl_L_69 (k_X9_mends l (xs (i + 1).toNatClampNeg) μ) hx sh_0 rfl rfl ⟨rfl, rfl, Nat.le_of_ble_eq_true rfl, Nat.le_of_ble_eq_true rfl⟩ (Nat.le_of_ble_eq_true rfl) rfl (fun _ => rfl) rfl rfl ?_
  refine lx_aload_n dL_law_540 rfl ?_
  refine lx_aload_n dL_law_541 rfl ?_
  refine lx_iload_n dL_law_542 rfl ?_
  refine lx_iconst (v := 1) dL_law_543 (by decide) ?_
  refine lx_iadd dL_law_544 ?_
  refine lx_sld dL_law_545 h1 ?_
  refine lx_call (rest := [.int r]) (st' := [.int r, .int r]) (μ' := μ2) dL_law_546 my_X10_mends vl_L_72 (k_X10_mends l (xs (i + 1).toNatClampNeg) μ1) hm sh_50 rfl rfl ⟨rfl, rfl, Nat.le_of_ble_eq_true rfl, Nat.le_of_ble_eq_true rfl⟩ (Nat.le_of_ble_eq_true rfl) rfl (fun _ => rfl) rfl rfl ?_
  refine lx_eq (tgt := 937) dL_law_549 (by decide) rfl ?_
  exact k
theorem lc_14 {l : Launch} {b L : Nat} {xs : Nat → Int32} {i : Int32} {μ μ2 : pm_M} {r : Int32} (hx : f_X9_steady μ = some r) (hm : f_X10_steady μ = some (r, μ2)) (k : lw_V l b L xs 937 [some (.ref 1000), some (.ref 0), some (.ref 50), some (.int i)] [] μ2) : lw_V l b L xs 554 [some (.ref 1000), some (.ref 0), some (.ref 50), some (.int i)] [] μ := by
  refine lx_aload_n dL_law_554 rfl ?_
  refine lx_call (rest := []) (st' := [.int r]) (μ' := μ) dL_law_555 my_X9_steady vl_L_73 (k_X9_steady l μ) hx sh_0 rfl rfl ⟨rfl, rfl, Nat.le_of_ble_eq_true rfl, Nat.le_of_ble_eq_true rfl⟩ (Nat.le_of_ble_eq_true rfl) rfl (fun _ => rfl) rfl rfl ?_
  refine lx_aload_n dL_law_558 rfl ?_
  refine lx_call (rest := [.int r]) (st' := [.int r, .int r]) (μ' := μ2) dL_law_559 my_X10_steady vl_L_76 (k_X10_steady l μ) hm sh_50 rfl rfl ⟨rfl, rfl, Nat.le_of_ble_eq_true rfl, Nat.le_of_ble_eq_true rfl⟩ (Nat.le_of_ble_eq_true rfl) rfl (fun _ => rfl) rfl rfl ?_
  refine lx_eq (tgt := 937) dL_law_562 (by decide) rfl ?_
  exact k
theorem lc_15 {l : Launch} {b L : Nat} {xs : Nat → Int32} {i : Int32} {μ μ2 : pm_M} {r : Int32} (h1 : vp_in (i + 1) L) (h2 : vp_in (i + 2) L) (h3 : vp_in (i + 3) L) (hx : f_X9_wed (xs (i + 1).toNatClampNeg) (xs (i + 2).toNatClampNeg) (xs (i + 3).toNatClampNeg) μ = some r) (hm : f_X10_wed (xs (i + 1).toNatClampNeg) (xs (i + 2).toNatClampNeg) (xs (i + 3).toNatClampNeg) μ = some (r, μ2)) (k : lw_V l b L xs 937 [some (.ref 1000), some (.ref 0), some (.ref 50), some (.int i)] [] μ2) : lw_V l b L xs 567 [some (.ref 1000), some (.ref 0), some (.ref 50), some (.int i)] [] μ := by
  refine lx_aload_n dL_law_567 rfl ?_
  refine lx_aload_n dL_law_568 rfl ?_
  refine lx_iload_n dL_law_569 rfl ?_
  refine lx_iconst (v := 1) dL_law_570 (by decide) ?_
  refine lx_iadd dL_law_571 ?_
  refine lx_sld dL_law_572 h1 ?_
  refine lx_aload_n dL_law_573 rfl ?_
  refine lx_iload_n dL_law_574 rfl ?_
  refine lx_iconst (v := 2) dL_law_575 (by decide) ?_
  refine lx_iadd dL_law_576 ?_
  refine lx_sld dL_law_577 h2 ?_
  refine lx_aload_n dL_law_578 rfl ?_
  refine lx_iload_n dL_law_579 rfl ?_
  refine lx_iconst (v := 3) dL_law_580 (by decide) ?_
  refine lx_iadd dL_law_581 ?_
  refine lx_sld dL_law_582 h3 ?_
  refine lx_call (rest := []) (st' := [.int r]) (μ' := μ) dL_law_583 my_X9_wed vl_L_77 (k_X9_wed l (xs (i + 1).toNatClampNeg) (xs (i + 2).toNatClampNeg) (xs (i + 3).toNatClampNeg) μ) hx sh_0 rfl rfl ⟨rfl, rfl, Nat.le_of_ble_eq_true rfl, Nat.le_of_ble_eq_true rfl⟩ (Nat.le_of_ble_eq_true rfl) rfl (fun _ => rfl) rfl rfl ?_
  refine lx_aload_n dL_law_586 rfl ?_
  refine lx_aload_n dL_law_587 rfl ?_
  refine lx_iload_n dL_law_588 rfl ?_
  refine lx_iconst (v := 1) dL_law_589 (by decide) ?_
  refine lx_iadd dL_law_590 ?_
  refine lx_sld dL_law_591 h1 ?_
  refine lx_aload_n dL_law_592 rfl ?_
  refine lx_iload_n dL_law_593 rfl ?_
  refine lx_iconst (v := 2) dL_law_594 (by decide) ?_
  refine lx_iadd dL_law_595 ?_
  refine lx_sld dL_law_596 h2 ?_
  refine lx_aload_n dL_law_597 rfl ?_
  refine lx_iload_n dL_law_598 rfl ?_
  refine lx_iconst (v := 3) dL_law_599 (by decide) ?_
  refine lx_iadd dL_law_600 ?_
  refine lx_sld dL_law_601 h3 ?_
  refine lx_call (rest := [.int r]) (st' := [.int r, .int r]) (μ' := μ2) dL_law_602 my_X10_wed vl_L_80 (k_X10_wed l (xs (i + 1).toNatClampNeg) (xs (i + 2).toNatClampNeg) (xs (i + 3).toNatClampNeg) μ) hm sh_50 rfl rfl ⟨rfl, rfl, Nat.le_of_ble_eq_true rfl, Nat.le_of_ble_eq_true rfl⟩ (Nat.le_of_ble_eq_true rfl) rfl (fun _ => rfl) rfl rfl ?_
  refine lx_eq (tgt := 937) dL_law_605 (by decide) rfl ?_
  exact k
theorem lc_16 {l : Launch} {b L : Nat} {xs : Nat → Int32} {i : Int32} {μ μ1 μ2 : pm_M} {r : Int32} (h1 : vp_in (i + 1) L) (h2 : vp_in (i + 2) L) (h3 : vp_in (i + 3) L) (hx : f_X9_seen (xs (i + 1).toNatClampNeg) (xs (i + 2).toNatClampNeg) (if (xs (i + 3).toNatClampNeg) = 0 then 0 else 1) μ = some (r, μ1)) (hm : f_X10_seen (xs (i + 1).toNatClampNeg) (xs (i + 2).toNatClampNeg) (if (xs (i + 3).toNatClampNeg) = 0 then 0 else 1) μ1 = some (r, μ2)) (k : lw_V l b L xs 937 [some (.ref 1000), some (.ref 0), some (.ref 50), some (.int i)] [] μ2) : lw_V l b L xs 610 [some (.ref 1000), some (.ref 0), some (.ref 50), some (.int i)] [] μ := by
  refine lx_aload_n dL_law_610 rfl ?_
  refine lx_aload_n dL_law_611 rfl ?_
  refine lx_iload_n dL_law_612 rfl ?_
  refine lx_iconst (v := 1) dL_law_613 (by decide) ?_
  refine lx_iadd dL_law_614 ?_
  refine lx_sld dL_law_615 h1 ?_
  refine lx_aload_n dL_law_616 rfl ?_
  refine lx_iload_n dL_law_617 rfl ?_
  refine lx_iconst (v := 2) dL_law_618 (by decide) ?_
  refine lx_iadd dL_law_619 ?_
  refine lx_sld dL_law_620 h2 ?_
  refine lx_aload_n dL_law_621 rfl ?_
  refine lx_iload_n dL_law_622 rfl ?_
  refine lx_iconst (v := 3) dL_law_623 (by decide) ?_
  refine lx_iadd dL_law_624 ?_
  refine lx_sld dL_law_625 h3 ?_
  refine lx_if_eq (tgt := 633) dL_law_626 (by decide) (fun hc => ?_) (fun hc => ?_)
  · rw [if_pos hc] at hx hm
    refine lx_iconst (v := 0) dL_law_633 (by decide) ?_
    refine lx_call (rest := []) (st' := [.int r]) (μ' := μ1) dL_law_634 my_X9_seen vl_L_81 (k_X9_seen l (xs (i + 1).toNatClampNeg) (xs (i + 2).toNatClampNeg) (0 : Int32) μ) hx sh_0 rfl rfl ⟨rfl, rfl, Nat.le_of_ble_eq_true rfl, Nat.le_of_ble_eq_true rfl⟩ (Nat.le_of_ble_eq_true rfl) rfl (fun _ => rfl) rfl rfl ?_
    refine lx_aload_n dL_law_637 rfl ?_
    refine lx_aload_n dL_law_638 rfl ?_
    refine lx_iload_n dL_law_639 rfl ?_
    refine lx_iconst (v := 1) dL_law_640 (by decide) ?_
    refine lx_iadd dL_law_641 ?_
    refine lx_sld dL_law_642 h1 ?_
    refine lx_aload_n dL_law_643 rfl ?_
    refine lx_iload_n dL_law_644 rfl ?_
    refine lx_iconst (v := 2) dL_law_645 (by decide) ?_
    refine lx_iadd dL_law_646 ?_
    refine lx_sld dL_law_647 h2 ?_
    refine lx_aload_n dL_law_648 rfl ?_
    refine lx_iload_n dL_law_649 rfl ?_
    refine lx_iconst (v := 3) dL_law_650 (by decide) ?_
    refine lx_iadd dL_law_651 ?_
    refine lx_sld dL_law_652 h3 ?_
    refine lx_if_eq (tgt := 660) dL_law_653 (by decide) (fun _ => ?_) (fun hn => absurd hc hn)
    refine lx_iconst (v := 0) dL_law_660 (by decide) ?_
    refine lx_call (rest := [.int r]) (st' := [.int r, .int r]) (μ' := μ2) dL_law_661 my_X10_seen vl_L_85 (k_X10_seen l (xs (i + 1).toNatClampNeg) (xs (i + 2).toNatClampNeg) (0 : Int32) μ1) hm sh_50 rfl rfl ⟨rfl, rfl, Nat.le_of_ble_eq_true rfl, Nat.le_of_ble_eq_true rfl⟩ (Nat.le_of_ble_eq_true rfl) rfl (fun _ => rfl) rfl rfl ?_
    refine lx_eq (tgt := 937) dL_law_664 (by decide) rfl ?_
    exact k
  · rw [if_neg hc] at hx hm
    refine lx_iconst (v := 1) dL_law_629 (by decide) ?_
    refine lx_goto (tgt := 634) dL_law_630 (by decide) ?_
    refine lx_call (rest := []) (st' := [.int r]) (μ' := μ1) dL_law_634 my_X9_seen vl_L_81 (k_X9_seen l (xs (i + 1).toNatClampNeg) (xs (i + 2).toNatClampNeg) (1 : Int32) μ) hx sh_0 rfl rfl ⟨rfl, rfl, Nat.le_of_ble_eq_true rfl, Nat.le_of_ble_eq_true rfl⟩ (Nat.le_of_ble_eq_true rfl) rfl (fun _ => rfl) rfl rfl ?_
    refine lx_aload_n dL_law_637 rfl ?_
    refine lx_aload_n dL_law_638 rfl ?_
    refine lx_iload_n dL_law_639 rfl ?_
    refine lx_iconst (v := 1) dL_law_640 (by decide) ?_
    refine lx_iadd dL_law_641 ?_
    refine lx_sld dL_law_642 h1 ?_
    refine lx_aload_n dL_law_643 rfl ?_
    refine lx_iload_n dL_law_644 rfl ?_
    refine lx_iconst (v := 2) dL_law_645 (by decide) ?_
    refine lx_iadd dL_law_646 ?_
    refine lx_sld dL_law_647 h2 ?_
    refine lx_aload_n dL_law_648 rfl ?_
    refine lx_iload_n dL_law_649 rfl ?_
    refine lx_iconst (v := 3) dL_law_650 (by decide) ?_
    refine lx_iadd dL_law_651 ?_
    refine lx_sld dL_law_652 h3 ?_
    refine lx_if_eq (tgt := 660) dL_law_653 (by decide) (fun hn => absurd hn hc) (fun _ => ?_)
    refine lx_iconst (v := 1) dL_law_656 (by decide) ?_
    refine lx_goto (tgt := 661) dL_law_657 (by decide) ?_
    refine lx_call (rest := [.int r]) (st' := [.int r, .int r]) (μ' := μ2) dL_law_661 my_X10_seen vl_L_85 (k_X10_seen l (xs (i + 1).toNatClampNeg) (xs (i + 2).toNatClampNeg) (1 : Int32) μ1) hm sh_50 rfl rfl ⟨rfl, rfl, Nat.le_of_ble_eq_true rfl, Nat.le_of_ble_eq_true rfl⟩ (Nat.le_of_ble_eq_true rfl) rfl (fun _ => rfl) rfl rfl ?_
    refine lx_eq (tgt := 937) dL_law_664 (by decide) rfl ?_
    exact k
theorem lc_17 {l : Launch} {b L : Nat} {xs : Nat → Int32} {i : Int32} {μ μ1 μ2 : pm_M} {r : Int32} (hx : f_X9_forget μ = some (r, μ1)) (hm : f_X10_forget μ1 = some (r, μ2)) (k : lw_V l b L xs 937 [some (.ref 1000), some (.ref 0), some (.ref 50), some (.int i)] [] μ2) : lw_V l b L xs 669 [some (.ref 1000), some (.ref 0), some (.ref 50), some (.int i)] [] μ := by
  refine lx_aload_n dL_law_669 rfl ?_
  refine lx_call (rest := []) (st' := [.int r]) (μ' := μ1) dL_law_670 my_X9_forget vl_L_86 (k_X9_forget l μ) hx sh_0 rfl rfl ⟨rfl, rfl, Nat.le_of_ble_eq_true rfl, Nat.le_of_ble_eq_true rfl⟩ (Nat.le_of_ble_eq_true rfl) rfl (fun _ => rfl) rfl rfl ?_
  refine lx_aload_n dL_law_673 rfl ?_
  refine lx_call (rest := [.int r]) (st' := [.int r, .int r]) (μ' := μ2) dL_law_674 my_X10_forget vl_L_89 (k_X10_forget l μ1) hm sh_50 rfl rfl ⟨rfl, rfl, Nat.le_of_ble_eq_true rfl, Nat.le_of_ble_eq_true rfl⟩ (Nat.le_of_ble_eq_true rfl) rfl (fun _ => rfl) rfl rfl ?_
  refine lx_eq (tgt := 937) dL_law_677 (by decide) rfl ?_
  exact k
theorem lc_18 {l : Launch} {b L : Nat} {xs : Nat → Int32} {i : Int32} {μ : pm_M} {r : Int32} (h1 : vp_in (i + 1) L) (hx : f_X9_posts (xs (i + 1).toNatClampNeg) μ = some r) (hm : f_X10_posts (xs (i + 1).toNatClampNeg) μ = some r) (k : lw_V l b L xs 937 [some (.ref 1000), some (.ref 0), some (.ref 50), some (.int i)] [] μ) : lw_V l b L xs 682 [some (.ref 1000), some (.ref 0), some (.ref 50), some (.int i)] [] μ := by
  refine lx_aload_n dL_law_682 rfl ?_
  refine lx_aload_n dL_law_683 rfl ?_
  refine lx_iload_n dL_law_684 rfl ?_
  refine lx_iconst (v := 1) dL_law_685 (by decide) ?_
  refine lx_iadd dL_law_686 ?_
  refine lx_sld dL_law_687 h1 ?_
  refine lx_call (rest := []) (st' := [.int r]) (μ' := μ) dL_law_688 my_X9_posts vl_L_90 (k_X9_posts l (xs (i + 1).toNatClampNeg) μ) hx sh_0 rfl rfl ⟨rfl, rfl, Nat.le_of_ble_eq_true rfl, Nat.le_of_ble_eq_true rfl⟩ (Nat.le_of_ble_eq_true rfl) rfl (fun _ => rfl) rfl rfl ?_
  refine lx_aload_n dL_law_691 rfl ?_
  refine lx_aload_n dL_law_692 rfl ?_
  refine lx_iload_n dL_law_693 rfl ?_
  refine lx_iconst (v := 1) dL_law_694 (by decide) ?_
  refine lx_iadd dL_law_695 ?_
  refine lx_sld dL_law_696 h1 ?_
  refine lx_call (rest := [.int r]) (st' := [.int r, .int r]) (μ' := μ) dL_law_697 my_X10_posts vl_L_93 (k_X10_posts l (xs (i + 1).toNatClampNeg) μ) hm sh_50 rfl rfl ⟨rfl, rfl, Nat.le_of_ble_eq_true rfl, Nat.le_of_ble_eq_true rfl⟩ (Nat.le_of_ble_eq_true rfl) rfl (fun _ => rfl) rfl rfl ?_
  refine lx_eq (tgt := 937) dL_law_700 (by decide) rfl ?_
  exact k
theorem lc_19 {l : Launch} {b L : Nat} {xs : Nat → Int32} {i : Int32} {μ μ1 μ2 : pm_M} {r : Int32} (h1 : vp_in (i + 1) L) (hx : f_X9_ask (xs (i + 1).toNatClampNeg) μ = some (r, μ1)) (hm : f_X10_ask (xs (i + 1).toNatClampNeg) μ1 = some (r, μ2)) (k : lw_V l b L xs 937 [some (.ref 1000), some (.ref 0), some (.ref 50), some (.int i)] [] μ2) : lw_V l b L xs 705 [some (.ref 1000), some (.ref 0), some (.ref 50), some (.int i)] [] μ := by
  refine lx_aload_n dL_law_705 rfl ?_
  refine lx_aload_n dL_law_706 rfl ?_
  refine lx_iload_n dL_law_707 rfl ?_
  refine lx_iconst (v := 1) dL_law_708 (by decide) ?_
  refine lx_iadd dL_law_709 ?_
  refine lx_sld dL_law_710 h1 ?_
  refine lx_call (rest := []) (st' := [.int r]) (μ' := μ1) dL_law_711 my_X9_ask vl_L_94 (k_X9_ask l (xs (i + 1).toNatClampNeg) μ) hx sh_0 rfl rfl ⟨rfl, rfl, Nat.le_of_ble_eq_true rfl, Nat.le_of_ble_eq_true rfl⟩ (Nat.le_of_ble_eq_true rfl) rfl (fun _ => rfl) rfl rfl ?_
  refine lx_aload_n dL_law_714 rfl ?_
  refine lx_aload_n dL_law_715 rfl ?_
  refine lx_iload_n dL_law_716 rfl ?_
  refine lx_iconst (v := 1) dL_law_717 (by decide) ?_
  refine lx_iadd dL_law_718 ?_
  refine lx_sld dL_law_719 h1 ?_
  refine lx_call (rest := [.int r]) (st' := [.int r, .int r]) (μ' := μ2) dL_law_720 my_X10_ask vl_L_97 (k_X10_ask l (xs (i + 1).toNatClampNeg) μ1) hm sh_50 rfl rfl ⟨rfl, rfl, Nat.le_of_ble_eq_true rfl, Nat.le_of_ble_eq_true rfl⟩ (Nat.le_of_ble_eq_true rfl) rfl (fun _ => rfl) rfl rfl ?_
  refine lx_eq (tgt := 937) dL_law_723 (by decide) rfl ?_
  exact k
theorem lc_20 {l : Launch} {b L : Nat} {xs : Nat → Int32} {i : Int32} {μ μ2 : pm_M} {r : Int32} (h1 : vp_in (i + 1) L) (h2 : vp_in (i + 2) L) (hx : f_X9_heaps (xs (i + 1).toNatClampNeg) (xs (i + 2).toNatClampNeg) μ = some r) (hm : f_X10_heaps (xs (i + 1).toNatClampNeg) (xs (i + 2).toNatClampNeg) μ = some (r, μ2)) (k : lw_V l b L xs 937 [some (.ref 1000), some (.ref 0), some (.ref 50), some (.int i)] [] μ2) : lw_V l b L xs 728 [some (.ref 1000), some (.ref 0), some (.ref 50), some (.int i)] [] μ := by
  refine lx_aload_n dL_law_728 rfl ?_
  refine lx_aload_n dL_law_729 rfl ?_
  refine lx_iload_n dL_law_730 rfl ?_
  refine lx_iconst (v := 1) dL_law_731 (by decide) ?_
  refine lx_iadd dL_law_732 ?_
  refine lx_sld dL_law_733 h1 ?_
  refine lx_aload_n dL_law_734 rfl ?_
  refine lx_iload_n dL_law_735 rfl ?_
  refine lx_iconst (v := 2) dL_law_736 (by decide) ?_
  refine lx_iadd dL_law_737 ?_
  refine lx_sld dL_law_738 h2 ?_
  refine lx_call (rest := []) (st' := [.int r]) (μ' := μ) dL_law_739 my_X9_heaps vl_L_98 (k_X9_heaps l (xs (i + 1).toNatClampNeg) (xs (i + 2).toNatClampNeg) μ) hx sh_0 rfl rfl ⟨rfl, rfl, Nat.le_of_ble_eq_true rfl, Nat.le_of_ble_eq_true rfl⟩ (Nat.le_of_ble_eq_true rfl) rfl (fun _ => rfl) rfl rfl ?_
  refine lx_aload_n dL_law_742 rfl ?_
  refine lx_aload_n dL_law_743 rfl ?_
  refine lx_iload_n dL_law_744 rfl ?_
  refine lx_iconst (v := 1) dL_law_745 (by decide) ?_
  refine lx_iadd dL_law_746 ?_
  refine lx_sld dL_law_747 h1 ?_
  refine lx_aload_n dL_law_748 rfl ?_
  refine lx_iload_n dL_law_749 rfl ?_
  refine lx_iconst (v := 2) dL_law_750 (by decide) ?_
  refine lx_iadd dL_law_751 ?_
  refine lx_sld dL_law_752 h2 ?_
  refine lx_call (rest := [.int r]) (st' := [.int r, .int r]) (μ' := μ2) dL_law_753 my_X10_heaps vl_L_101 (k_X10_heaps l (xs (i + 1).toNatClampNeg) (xs (i + 2).toNatClampNeg) μ) hm sh_50 rfl rfl ⟨rfl, rfl, Nat.le_of_ble_eq_true rfl, Nat.le_of_ble_eq_true rfl⟩ (Nat.le_of_ble_eq_true rfl) rfl (fun _ => rfl) rfl rfl ?_
  refine lx_eq (tgt := 937) dL_law_756 (by decide) rfl ?_
  exact k
theorem lc_21 {l : Launch} {b L : Nat} {xs : Nat → Int32} {i : Int32} {μ : pm_M} {r : Int64} (h1 : vp_in (i + 1) L) (h2 : vp_in (i + 2) L) (h3 : vp_in (i + 3) L) (h4 : vp_in (i + 4) L) (h5 : vp_in (i + 5) L) (hx : f_X9_gust (xs (i + 1).toNatClampNeg) (xs (i + 2).toNatClampNeg) (xs (i + 3).toNatClampNeg) (xs (i + 4).toNatClampNeg) (xs (i + 5).toNatClampNeg) = some r) (hm : f_X10_gust (xs (i + 1).toNatClampNeg) (xs (i + 2).toNatClampNeg) (xs (i + 3).toNatClampNeg) (xs (i + 4).toNatClampNeg) (xs (i + 5).toNatClampNeg) = some r) (k : lw_V l b L xs 937 [some (.ref 1000), some (.ref 0), some (.ref 50), some (.int i)] [] μ) : lw_V l b L xs 761 [some (.ref 1000), some (.ref 0), some (.ref 50), some (.int i)] [] μ := by
  refine lx_aload_n dL_law_761 rfl ?_
  refine lx_aload_n dL_law_762 rfl ?_
  refine lx_iload_n dL_law_763 rfl ?_
  refine lx_iconst (v := 1) dL_law_764 (by decide) ?_
  refine lx_iadd dL_law_765 ?_
  refine lx_sld dL_law_766 h1 ?_
  refine lx_aload_n dL_law_767 rfl ?_
  refine lx_iload_n dL_law_768 rfl ?_
  refine lx_iconst (v := 2) dL_law_769 (by decide) ?_
  refine lx_iadd dL_law_770 ?_
  refine lx_sld dL_law_771 h2 ?_
  refine lx_aload_n dL_law_772 rfl ?_
  refine lx_iload_n dL_law_773 rfl ?_
  refine lx_iconst (v := 3) dL_law_774 (by decide) ?_
  refine lx_iadd dL_law_775 ?_
  refine lx_sld dL_law_776 h3 ?_
  refine lx_aload_n dL_law_777 rfl ?_
  refine lx_iload_n dL_law_778 rfl ?_
  refine lx_iconst (v := 4) dL_law_779 (by decide) ?_
  refine lx_iadd dL_law_780 ?_
  refine lx_sld dL_law_781 h4 ?_
  refine lx_aload_n dL_law_782 rfl ?_
  refine lx_iload_n dL_law_783 rfl ?_
  refine lx_iconst (v := 5) dL_law_784 (by decide) ?_
  refine lx_iadd dL_law_785 ?_
  refine lx_sld dL_law_786 h5 ?_
  refine lx_call (rest := []) (st' := [.long r]) (μ' := μ) dL_law_787 my_X9_gust vl_L_102 (k_X9_gust l (xs (i + 1).toNatClampNeg) (xs (i + 2).toNatClampNeg) (xs (i + 3).toNatClampNeg) (xs (i + 4).toNatClampNeg) (xs (i + 5).toNatClampNeg) μ) hx sh_0 rfl rfl ⟨rfl, rfl, Nat.le_of_ble_eq_true rfl, Nat.le_of_ble_eq_true rfl⟩ (Nat.le_of_ble_eq_true rfl) rfl (fun _ => rfl) rfl rfl ?_
  refine lx_aload_n dL_law_790 rfl ?_
  refine lx_aload_n dL_law_791 rfl ?_
  refine lx_iload_n dL_law_792 rfl ?_
  refine lx_iconst (v := 1) dL_law_793 (by decide) ?_
  refine lx_iadd dL_law_794 ?_
  refine lx_sld dL_law_795 h1 ?_
  refine lx_aload_n dL_law_796 rfl ?_
  refine lx_iload_n dL_law_797 rfl ?_
  refine lx_iconst (v := 2) dL_law_798 (by decide) ?_
  refine lx_iadd dL_law_799 ?_
  refine lx_sld dL_law_800 h2 ?_
  refine lx_aload_n dL_law_801 rfl ?_
  refine lx_iload_n dL_law_802 rfl ?_
  refine lx_iconst (v := 3) dL_law_803 (by decide) ?_
  refine lx_iadd dL_law_804 ?_
  refine lx_sld dL_law_805 h3 ?_
  refine lx_aload_n dL_law_806 rfl ?_
  refine lx_iload_n dL_law_807 rfl ?_
  refine lx_iconst (v := 4) dL_law_808 (by decide) ?_
  refine lx_iadd dL_law_809 ?_
  refine lx_sld dL_law_810 h4 ?_
  refine lx_aload_n dL_law_811 rfl ?_
  refine lx_iload_n dL_law_812 rfl ?_
  refine lx_iconst (v := 5) dL_law_813 (by decide) ?_
  refine lx_iadd dL_law_814 ?_
  refine lx_sld dL_law_815 h5 ?_
  refine lx_call (rest := [.long r]) (st' := [.long r, .long r]) (μ' := μ) dL_law_816 my_X10_gust vl_L_106 (k_X10_gust l (xs (i + 1).toNatClampNeg) (xs (i + 2).toNatClampNeg) (xs (i + 3).toNatClampNeg) (xs (i + 4).toNatClampNeg) (xs (i + 5).toNatClampNeg) μ) hm sh_50 rfl rfl ⟨rfl, rfl, Nat.le_of_ble_eq_true rfl, Nat.le_of_ble_eq_true rfl⟩ (Nat.le_of_ble_eq_true rfl) rfl (fun _ => rfl) rfl rfl ?_
  refine lx_lcmp dL_law_819 ?_
  exact lx_if_eq (tgt := 937) dL_law_820 (by decide) (fun _ => k) (fun hn => absurd (by simp [lg_cmp]) hn)
theorem lc_22 {l : Launch} {b L : Nat} {xs : Nat → Int32} {i : Int32} {μ μ1 μ2 : pm_M} {r : Int32} (h1 : vp_in (i + 1) L) (h2 : vp_in (i + 2) L) (h3 : vp_in (i + 3) L) (hx : f_X9_year (xs (i + 1).toNatClampNeg) (xs (i + 2).toNatClampNeg) (xs (i + 3).toNatClampNeg) μ = some (r, μ1)) (hm : f_X10_year (xs (i + 1).toNatClampNeg) (xs (i + 2).toNatClampNeg) (xs (i + 3).toNatClampNeg) μ1 = some (r, μ2)) (k : lw_V l b L xs 937 [some (.ref 1000), some (.ref 0), some (.ref 50), some (.int i)] [] μ2) : lw_V l b L xs 825 [some (.ref 1000), some (.ref 0), some (.ref 50), some (.int i)] [] μ := by
  refine lx_aload_n dL_law_825 rfl ?_
  refine lx_aload_n dL_law_826 rfl ?_
  refine lx_iload_n dL_law_827 rfl ?_
  refine lx_iconst (v := 1) dL_law_828 (by decide) ?_
  refine lx_iadd dL_law_829 ?_
  refine lx_sld dL_law_830 h1 ?_
  refine lx_aload_n dL_law_831 rfl ?_
  refine lx_iload_n dL_law_832 rfl ?_
  refine lx_iconst (v := 2) dL_law_833 (by decide) ?_
  refine lx_iadd dL_law_834 ?_
  refine lx_sld dL_law_835 h2 ?_
  refine lx_aload_n dL_law_836 rfl ?_
  refine lx_iload_n dL_law_837 rfl ?_
  refine lx_iconst (v := 3) dL_law_838 (by decide) ?_
  refine lx_iadd dL_law_839 ?_
  refine lx_sld dL_law_840 h3 ?_
  refine lx_call (rest := []) (st' := [.int r]) (μ' := μ1) dL_law_841 my_X9_year vl_L_107 (k_X9_year l (xs (i + 1).toNatClampNeg) (xs (i + 2).toNatClampNeg) (xs (i + 3).toNatClampNeg) μ) hx sh_0 rfl rfl ⟨rfl, rfl, Nat.le_of_ble_eq_true rfl, Nat.le_of_ble_eq_true rfl⟩ (Nat.le_of_ble_eq_true rfl) rfl (fun _ => rfl) rfl rfl ?_
  refine lx_aload_n dL_law_844 rfl ?_
  refine lx_aload_n dL_law_845 rfl ?_
  refine lx_iload_n dL_law_846 rfl ?_
  refine lx_iconst (v := 1) dL_law_847 (by decide) ?_
  refine lx_iadd dL_law_848 ?_
  refine lx_sld dL_law_849 h1 ?_
  refine lx_aload_n dL_law_850 rfl ?_
  refine lx_iload_n dL_law_851 rfl ?_
  refine lx_iconst (v := 2) dL_law_852 (by decide) ?_
  refine lx_iadd dL_law_853 ?_
  refine lx_sld dL_law_854 h2 ?_
  refine lx_aload_n dL_law_855 rfl ?_
  refine lx_iload_n dL_law_856 rfl ?_
  refine lx_iconst (v := 3) dL_law_857 (by decide) ?_
  refine lx_iadd dL_law_858 ?_
  refine lx_sld dL_law_859 h3 ?_
  refine lx_call (rest := [.int r]) (st' := [.int r, .int r]) (μ' := μ2) dL_law_860 my_X10_year vl_L_110 (k_X10_year l (xs (i + 1).toNatClampNeg) (xs (i + 2).toNatClampNeg) (xs (i + 3).toNatClampNeg) μ1) hm sh_50 rfl rfl ⟨rfl, rfl, Nat.le_of_ble_eq_true rfl, Nat.le_of_ble_eq_true rfl⟩ (Nat.le_of_ble_eq_true rfl) rfl (fun _ => rfl) rfl rfl ?_
  refine lx_eq (tgt := 937) dL_law_863 (by decide) rfl ?_
  exact k
theorem lc_23 {l : Launch} {b L : Nat} {xs : Nat → Int32} {i : Int32} {μ μ1 μ2 : pm_M} {r : Int32} (h1 : vp_in (i + 1) L) (hx : f_X9_image (xs (i + 1).toNatClampNeg) μ = some (r, μ1)) (hm : f_X10_image (xs (i + 1).toNatClampNeg) μ1 = some (r, μ2)) (k : lw_V l b L xs 937 [some (.ref 1000), some (.ref 0), some (.ref 50), some (.int i)] [] μ2) : lw_V l b L xs 868 [some (.ref 1000), some (.ref 0), some (.ref 50), some (.int i)] [] μ := by
  refine lx_aload_n dL_law_868 rfl ?_
  refine lx_aload_n dL_law_869 rfl ?_
  refine lx_iload_n dL_law_870 rfl ?_
  refine lx_iconst (v := 1) dL_law_871 (by decide) ?_
  refine lx_iadd dL_law_872 ?_
  refine lx_sld dL_law_873 h1 ?_
  refine lx_call (rest := []) (st' := [.int r]) (μ' := μ1) dL_law_874 my_X9_image vl_L_111 (k_X9_image l (xs (i + 1).toNatClampNeg) μ) hx sh_0 rfl rfl ⟨rfl, rfl, Nat.le_of_ble_eq_true rfl, Nat.le_of_ble_eq_true rfl⟩ (Nat.le_of_ble_eq_true rfl) rfl (fun _ => rfl) rfl rfl ?_
  refine lx_aload_n dL_law_877 rfl ?_
  refine lx_aload_n dL_law_878 rfl ?_
  refine lx_iload_n dL_law_879 rfl ?_
  refine lx_iconst (v := 1) dL_law_880 (by decide) ?_
  refine lx_iadd dL_law_881 ?_
  refine lx_sld dL_law_882 h1 ?_
  refine lx_call (rest := [.int r]) (st' := [.int r, .int r]) (μ' := μ2) dL_law_883 my_X10_image vl_L_114 (k_X10_image l (xs (i + 1).toNatClampNeg) μ1) hm sh_50 rfl rfl ⟨rfl, rfl, Nat.le_of_ble_eq_true rfl, Nat.le_of_ble_eq_true rfl⟩ (Nat.le_of_ble_eq_true rfl) rfl (fun _ => rfl) rfl rfl ?_
  refine lx_eq (tgt := 937) dL_law_886 (by decide) rfl ?_
  exact k
theorem lc_24 {l : Launch} {b L : Nat} {xs : Nat → Int32} {i : Int32} {μ μ1 μ2 : pm_M} {r : Int32} (h1 : vp_in (i + 1) L) (hx : f_X9_restore (xs (i + 1).toNatClampNeg) μ = some (r, μ1)) (hm : f_X10_restore (xs (i + 1).toNatClampNeg) μ1 = some (r, μ2)) (k : lw_V l b L xs 937 [some (.ref 1000), some (.ref 0), some (.ref 50), some (.int i)] [] μ2) : lw_V l b L xs 891 [some (.ref 1000), some (.ref 0), some (.ref 50), some (.int i)] [] μ := by
  refine lx_aload_n dL_law_891 rfl ?_
  refine lx_aload_n dL_law_892 rfl ?_
  refine lx_iload_n dL_law_893 rfl ?_
  refine lx_iconst (v := 1) dL_law_894 (by decide) ?_
  refine lx_iadd dL_law_895 ?_
  refine lx_sld dL_law_896 h1 ?_
  refine lx_call (rest := []) (st' := [.int r]) (μ' := μ1) dL_law_897 my_X9_restore vl_L_115 (k_X9_restore l (xs (i + 1).toNatClampNeg) μ) hx sh_0 rfl rfl ⟨rfl, rfl, Nat.le_of_ble_eq_true rfl, Nat.le_of_ble_eq_true rfl⟩ (Nat.le_of_ble_eq_true rfl) rfl (fun _ => rfl) rfl rfl ?_
  refine lx_aload_n dL_law_900 rfl ?_
  refine lx_aload_n dL_law_901 rfl ?_
  refine lx_iload_n dL_law_902 rfl ?_
  refine lx_iconst (v := 1) dL_law_903 (by decide) ?_
  refine lx_iadd dL_law_904 ?_
  refine lx_sld dL_law_905 h1 ?_
  refine lx_call (rest := [.int r]) (st' := [.int r, .int r]) (μ' := μ2) dL_law_906 my_X10_restore vl_L_118 (k_X10_restore l (xs (i + 1).toNatClampNeg) μ1) hm sh_50 rfl rfl ⟨rfl, rfl, Nat.le_of_ble_eq_true rfl, Nat.le_of_ble_eq_true rfl⟩ (Nat.le_of_ble_eq_true rfl) rfl (fun _ => rfl) rfl rfl ?_
  refine lx_eq (tgt := 937) dL_law_909 (by decide) rfl ?_
  exact k
theorem lc_25 {l : Launch} {b L : Nat} {xs : Nat → Int32} {i : Int32} {μ μ2 : pm_M} {r : Int32} (h1 : vp_in (i + 1) L) (hx : f_X9_told (xs (i + 1).toNatClampNeg) μ = some r) (hm : f_X10_told (xs (i + 1).toNatClampNeg) μ = some (r, μ2)) (k : lw_V l b L xs 937 [some (.ref 1000), some (.ref 0), some (.ref 50), some (.int i)] [] μ2) : lw_V l b L xs 914 [some (.ref 1000), some (.ref 0), some (.ref 50), some (.int i)] [] μ := by
  refine lx_aload_n dL_law_914 rfl ?_
  refine lx_aload_n dL_law_915 rfl ?_
  refine lx_iload_n dL_law_916 rfl ?_
  refine lx_iconst (v := 1) dL_law_917 (by decide) ?_
  refine lx_iadd dL_law_918 ?_
  refine lx_sld dL_law_919 h1 ?_
  refine lx_call (rest := []) (st' := [.int r]) (μ' := μ) dL_law_920 my_X9_told vl_L_119 (k_X9_told l (xs (i + 1).toNatClampNeg) μ) hx sh_0 rfl rfl ⟨rfl, rfl, Nat.le_of_ble_eq_true rfl, Nat.le_of_ble_eq_true rfl⟩ (Nat.le_of_ble_eq_true rfl) rfl (fun _ => rfl) rfl rfl ?_
  refine lx_aload_n dL_law_923 rfl ?_
  refine lx_aload_n dL_law_924 rfl ?_
  refine lx_iload_n dL_law_925 rfl ?_
  refine lx_iconst (v := 1) dL_law_926 (by decide) ?_
  refine lx_iadd dL_law_927 ?_
  refine lx_sld dL_law_928 h1 ?_
  refine lx_call (rest := [.int r]) (st' := [.int r, .int r]) (μ' := μ2) dL_law_929 my_X10_told vl_L_122 (k_X10_told l (xs (i + 1).toNatClampNeg) μ) hm sh_50 rfl rfl ⟨rfl, rfl, Nat.le_of_ble_eq_true rfl, Nat.le_of_ble_eq_true rfl⟩ (Nat.le_of_ble_eq_true rfl) rfl (fun _ => rfl) rfl rfl ?_
  refine lx_eq (tgt := 937) dL_law_932 (by decide) rfl ?_
  exact k
/-- pale answers alike, and the two stay alike -/
def ok_pale (Rel : pm_M → Prop) : Prop := ∀ (a1 a2 a3 : Int32) (μ : pm_M), Rel μ → ∃ (r : Int32) (μ1 : pm_M) (μ2 : pm_M), f_X9_pale a1 a2 a3 μ = some (r, μ1) ∧ f_X10_pale a1 a2 a3 μ1 = some (r, μ2) ∧ Rel μ2
/-- road answers alike, and the two stay alike -/
def ok_road (Rel : pm_M → Prop) : Prop := ∀ (a1 a2 a3 : Int32) (μ : pm_M), Rel μ → ∃ (r : Int32) (μ1 : pm_M) (μ2 : pm_M), f_X9_road a1 a2 a3 μ = some (r, μ1) ∧ f_X10_road a1 a2 a3 μ1 = some (r, μ2) ∧ Rel μ2
/-- farm answers alike, and the two stay alike -/
def ok_farm (Rel : pm_M → Prop) : Prop := ∀ (a1 a2 a3 : Int32) (μ : pm_M), Rel μ → ∃ (r : Int32) (μ1 : pm_M) (μ2 : pm_M), f_X9_farm a1 a2 a3 μ = some (r, μ1) ∧ f_X10_farm a1 a2 a3 μ1 = some (r, μ2) ∧ Rel μ2
/-- likes answers alike, and the two stay alike -/
def ok_likes (Rel : pm_M → Prop) : Prop := ∀ (a1 a2 a3 : Int32) (μ : pm_M), Rel μ → ∃ (r : Int32) (μ1 : pm_M) (μ2 : pm_M), f_X9_likes a1 a2 a3 μ = some (r, μ1) ∧ f_X10_likes a1 a2 a3 μ1 = some (r, μ2) ∧ Rel μ2
/-- say answers alike, and the two stay alike -/
def ok_say (Rel : pm_M → Prop) : Prop := ∀ (a1 : Int32) (μ : pm_M), Rel μ → ∃ (r : Int32) (μ1 : pm_M) (μ2 : pm_M), f_X9_say a1 μ = some (r, μ1) ∧ f_X10_say a1 μ1 = some (r, μ2) ∧ Rel μ2
/-- wipe answers alike, and the two stay alike -/
def ok_wipe (Rel : pm_M → Prop) : Prop := ∀ (μ : pm_M), Rel μ → ∃ (r : Int32) (μ1 : pm_M) (μ2 : pm_M), f_X9_wipe μ = some (r, μ1) ∧ f_X10_wipe μ1 = some (r, μ2) ∧ Rel μ2
/-- fault answers alike, and the two stay alike -/
def ok_fault (Rel : pm_M → Prop) : Prop := ∀ (μ : pm_M), Rel μ → ∃ (r : Int32) , f_X9_fault μ = some r ∧ f_X10_fault μ = some r ∧ Rel μ
/-- judge answers alike, and the two stay alike -/
def ok_judge (Rel : pm_M → Prop) : Prop := ∀ (a1 : Int32) (μ : pm_M), Rel μ → ∃ (r : Int32) (μ1 : pm_M) (μ2 : pm_M), f_X9_judge a1 μ = some (r, μ1) ∧ f_X10_judge a1 μ1 = some (r, μ2) ∧ Rel μ2
/-- done answers alike, and the two stay alike -/
def ok_done (Rel : pm_M → Prop) : Prop := ∀ (μ : pm_M), Rel μ → ∃ (r : Int32) (μ1 : pm_M) (μ2 : pm_M), f_X9_done μ = some (r, μ1) ∧ f_X10_done μ1 = some (r, μ2) ∧ Rel μ2
/-- behind answers alike, and the two stay alike -/
def ok_behind (Rel : pm_M → Prop) : Prop := ∀ (a1 a2 : Int32) (μ : pm_M), Rel μ → ∃ (r : Int32) (μ1 : pm_M) (μ2 : pm_M), f_X9_behind a1 a2 μ = some (r, μ1) ∧ f_X10_behind a1 a2 μ1 = some (r, μ2) ∧ Rel μ2
/-- goes answers alike, and the two stay alike -/
def ok_goes (Rel : pm_M → Prop) : Prop := ∀ (a1 a2 : Int32) (μ : pm_M), Rel μ → ∃ (r : Int32) (μ1 : pm_M) (μ2 : pm_M), f_X9_goes a1 a2 μ = some (r, μ1) ∧ f_X10_goes a1 a2 μ1 = some (r, μ2) ∧ Rel μ2
/-- then answers alike, and the two stay alike -/
def ok_then (Rel : pm_M → Prop) : Prop := ∀ (a1 : Int32) (μ : pm_M), Rel μ → ∃ (r : Int32) (μ1 : pm_M) (μ2 : pm_M), f_X9_then a1 μ = some (r, μ1) ∧ f_X10_then a1 μ1 = some (r, μ2) ∧ Rel μ2
/-- round answers alike, and the two stay alike -/
def ok_round (Rel : pm_M → Prop) : Prop := ∀ (a1 a2 : Int32) (μ : pm_M), Rel μ → ∃ (r : Int32) (μ1 : pm_M) (μ2 : pm_M), f_X9_round a1 a2 μ = some (r, μ1) ∧ f_X10_round a1 a2 μ1 = some (r, μ2) ∧ Rel μ2
/-- mends answers alike, and the two stay alike -/
def ok_mends (Rel : pm_M → Prop) : Prop := ∀ (a1 : Int32) (μ : pm_M), Rel μ → ∃ (r : Int32) (μ1 : pm_M) (μ2 : pm_M), f_X9_mends a1 μ = some (r, μ1) ∧ f_X10_mends a1 μ1 = some (r, μ2) ∧ Rel μ2
/-- steady answers alike, and the two stay alike -/
def ok_steady (Rel : pm_M → Prop) : Prop := ∀ (μ : pm_M), Rel μ → ∃ (r : Int32) (μ2 : pm_M), f_X9_steady μ = some r ∧ f_X10_steady μ = some (r, μ2) ∧ Rel μ2
/-- wed answers alike, and the two stay alike -/
def ok_wed (Rel : pm_M → Prop) : Prop := ∀ (a1 a2 a3 : Int32) (μ : pm_M), Rel μ → ∃ (r : Int32) (μ2 : pm_M), f_X9_wed a1 a2 a3 μ = some r ∧ f_X10_wed a1 a2 a3 μ = some (r, μ2) ∧ Rel μ2
/-- seen answers alike, and the two stay alike -/
def ok_seen (Rel : pm_M → Prop) : Prop := ∀ (a1 a2 a3 : Int32) (μ : pm_M), Rel μ → ∃ (r : Int32) (μ1 : pm_M) (μ2 : pm_M), f_X9_seen a1 a2 (if a3 = 0 then 0 else 1) μ = some (r, μ1) ∧ f_X10_seen a1 a2 (if a3 = 0 then 0 else 1) μ1 = some (r, μ2) ∧ Rel μ2
/-- forget answers alike, and the two stay alike -/
def ok_forget (Rel : pm_M → Prop) : Prop := ∀ (μ : pm_M), Rel μ → ∃ (r : Int32) (μ1 : pm_M) (μ2 : pm_M), f_X9_forget μ = some (r, μ1) ∧ f_X10_forget μ1 = some (r, μ2) ∧ Rel μ2
/-- posts answers alike, and the two stay alike -/
def ok_posts (Rel : pm_M → Prop) : Prop := ∀ (a1 : Int32) (μ : pm_M), Rel μ → ∃ (r : Int32) , f_X9_posts a1 μ = some r ∧ f_X10_posts a1 μ = some r ∧ Rel μ
/-- ask answers alike, and the two stay alike -/
def ok_ask (Rel : pm_M → Prop) : Prop := ∀ (a1 : Int32) (μ : pm_M), Rel μ → ∃ (r : Int32) (μ1 : pm_M) (μ2 : pm_M), f_X9_ask a1 μ = some (r, μ1) ∧ f_X10_ask a1 μ1 = some (r, μ2) ∧ Rel μ2
/-- heaps answers alike, and the two stay alike -/
def ok_heaps (Rel : pm_M → Prop) : Prop := ∀ (a1 a2 : Int32) (μ : pm_M), Rel μ → ∃ (r : Int32) (μ2 : pm_M), f_X9_heaps a1 a2 μ = some r ∧ f_X10_heaps a1 a2 μ = some (r, μ2) ∧ Rel μ2
/-- gust answers alike, and the two stay alike -/
def ok_gust (Rel : pm_M → Prop) : Prop := ∀ (a1 a2 a3 a4 a5 : Int32) (μ : pm_M), Rel μ → ∃ (r : Int64) , f_X9_gust a1 a2 a3 a4 a5 = some r ∧ f_X10_gust a1 a2 a3 a4 a5 = some r ∧ Rel μ
/-- year answers alike, and the two stay alike -/
def ok_year (Rel : pm_M → Prop) : Prop := ∀ (a1 a2 a3 : Int32) (μ : pm_M), Rel μ → ∃ (r : Int32) (μ1 : pm_M) (μ2 : pm_M), f_X9_year a1 a2 a3 μ = some (r, μ1) ∧ f_X10_year a1 a2 a3 μ1 = some (r, μ2) ∧ Rel μ2
/-- image answers alike, and the two stay alike -/
def ok_image (Rel : pm_M → Prop) : Prop := ∀ (a1 : Int32) (μ : pm_M), Rel μ → ∃ (r : Int32) (μ1 : pm_M) (μ2 : pm_M), f_X9_image a1 μ = some (r, μ1) ∧ f_X10_image a1 μ1 = some (r, μ2) ∧ Rel μ2
/-- restore answers alike, and the two stay alike -/
def ok_restore (Rel : pm_M → Prop) : Prop := ∀ (a1 : Int32) (μ : pm_M), Rel μ → ∃ (r : Int32) (μ1 : pm_M) (μ2 : pm_M), f_X9_restore a1 μ = some (r, μ1) ∧ f_X10_restore a1 μ1 = some (r, μ2) ∧ Rel μ2
/-- told answers alike, and the two stay alike -/
def ok_told (Rel : pm_M → Prop) : Prop := ∀ (a1 : Int32) (μ : pm_M), Rel μ → ∃ (r : Int32) (μ2 : pm_M), f_X9_told a1 μ = some r ∧ f_X10_told a1 μ = some (r, μ2) ∧ Rel μ2
def ok_all (Rel : pm_M → Prop) : Prop := ok_pale Rel ∧ ok_road Rel ∧ ok_farm Rel ∧ ok_likes Rel ∧ ok_say Rel ∧ ok_wipe Rel ∧ ok_fault Rel ∧ ok_judge Rel ∧ ok_done Rel ∧ ok_behind Rel ∧ ok_goes Rel ∧ ok_then Rel ∧ ok_round Rel ∧ ok_mends Rel ∧ ok_steady Rel ∧ ok_wed Rel ∧ ok_seen Rel ∧ ok_forget Rel ∧ ok_posts Rel ∧ ok_ask Rel ∧ ok_heaps Rel ∧ ok_gust Rel ∧ ok_year Rel ∧ ok_image Rel ∧ ok_restore Rel ∧ ok_told Rel
set_option maxHeartbeats 2000000 in
set_option maxRecDepth 20000 in
theorem lw_loop {l : Launch} {b L : Nat} {xs : Nat → Int32} (hL : L ≤ 3072) {Rel : pm_M → Prop} (hok : ok_all Rel) : ∀ (n k : Nat) (μ : pm_M), L + 6 < n + k → k ≤ L → Rel μ → lw_V l b L xs 18 [some (.ref 1000), some (.ref 0), some (.ref 50), some (.int (nI k))] [] μ := by
  intro n
  induction n with
  | zero =>
    intro k μ h1 h2 hR
    omega
  | succ n ih =>
    intro k μ h1 h2 hR
    obtain ⟨q_pale, q_road, q_farm, q_likes, q_say, q_wipe, q_fault, q_judge, q_done, q_behind, q_goes, q_then, q_round, q_mends, q_steady, q_wed, q_seen, q_forget, q_posts, q_ask, q_heaps, q_gust, q_year, q_image, q_restore, q_told⟩ := hok
    have hNat : ∀ j : Nat, (Int32.ofNat j) = nI j := fun _ => rfl
    refine lx_iload_n dL_law_18 rfl ?_
    refine lx_aload_n dL_law_19 rfl ?_
    refine lx_slen dL_law_20 ?_
    refine lx_bipush (v := 6) dL_law_21 (by decide) ?_
    refine lx_isub dL_law_23 ?_
    have hle : ¬ (Int32.ofNat L - 6 < nI k) → k + 6 ≤ L := by
      intro h
      rcases Nat.lt_or_ge L (k + 6) with q | q
      · exfalso
        apply h
        rw [Int32.lt_iff_toInt_lt, show (Int32.ofNat L - 6 : Int32) = nI L - nI 6 from rfl, pk_sub_toInt (by omega) (by omega), nI_toInt (by omega)]
        omega
      · exact q
    refine lx_gt (tgt := 943) dL_law_24 (by decide) (fun _ => ?_) (fun hc => ?_)
    · refine lx_iconst (v := 1) dL_law_943 (by decide) ?_
      exact lx_ret dL_law_944
    · have hk6 := hle hc
      have hin : ∀ j : Nat, j < 6 → vp_in (nI k + nI j) L := fun j hj => by rw [nI_add]; exact vp_in_nI (by omega) (by omega)
      have hnext : ∀ ν : pm_M, Rel ν → lw_V l b L xs 937 [some (.ref 1000), some (.ref 0), some (.ref 50), some (.int (nI k))] [] ν := by
        intro ν hν
        refine lx_iinc (v := nI (k + 6)) (ls' := [some (.ref 1000), some (.ref 0), some (.ref 50), some (.int (nI (k + 6)))]) dL_law_937 rfl (nI_add k 6) (by decide) rfl ?_
        refine lx_goto (tgt := 18) dL_law_940 (by decide) ?_
        exact ih (k + 6) ν (by omega) (by omega) hν
      refine lx_aload_n dL_law_27 rfl ?_
      refine lx_iload_n dL_law_28 rfl ?_
      refine lx_sld dL_law_29 (vp_in_nI (by omega) (by omega)) ?_
      refine lx_bipush (v := 31) dL_law_30 (by decide) ?_
      refine lx_iand dL_law_32 ?_
      refine lx_table (kys := [0, 1, 2, 3, 4, 5, 6, 7, 8, 9, 10, 11, 12, 13, 14, 15, 16, 17, 18, 19, 20, 21, 22, 23, 24, 25]) (ts := [152, 195, 238, 281, 324, 347, 360, 373, 396, 409, 442, 475, 498, 531, 554, 567, 610, 669, 682, 705, 728, 761, 825, 868, 891, 914]) (tD := 937) dL_law_33 rfl (by decide) (by decide) (by decide) (by decide) (fun i t hi ht => ?_) (hnext μ hR)
      have hlt : i < 26 := (List.getElem?_eq_some_iff.mp ht).1
      rcases (show i = 0 ∨ i = 1 ∨ i = 2 ∨ i = 3 ∨ i = 4 ∨ i = 5 ∨ i = 6 ∨ i = 7 ∨ i = 8 ∨ i = 9 ∨ i = 10 ∨ i = 11 ∨ i = 12 ∨ i = 13 ∨ i = 14 ∨ i = 15 ∨ i = 16 ∨ i = 17 ∨ i = 18 ∨ i = 19 ∨ i = 20 ∨ i = 21 ∨ i = 22 ∨ i = 23 ∨ i = 24 ∨ i = 25 by omega) with rfl | rfl | rfl | rfl | rfl | rfl | rfl | rfl | rfl | rfl | rfl | rfl | rfl | rfl | rfl | rfl | rfl | rfl | rfl | rfl | rfl | rfl | rfl | rfl | rfl | rfl
      · obtain ⟨r, μ1, μ2, hx, hm, hR2⟩ := q_pale (xs (nI k + nI 1).toNatClampNeg) (xs (nI k + nI 2).toNatClampNeg) (xs (nI k + nI 3).toNatClampNeg) μ hR
        cases ht
        exact lc_0 (hin 1 (by decide)) (hin 2 (by decide)) (hin 3 (by decide)) hx hm (hnext _ hR2)
      · obtain ⟨r, μ1, μ2, hx, hm, hR2⟩ := q_road (xs (nI k + nI 1).toNatClampNeg) (xs (nI k + nI 2).toNatClampNeg) (xs (nI k + nI 3).toNatClampNeg) μ hR
        cases ht
        exact lc_1 (hin 1 (by decide)) (hin 2 (by decide)) (hin 3 (by decide)) hx hm (hnext _ hR2)
      · obtain ⟨r, μ1, μ2, hx, hm, hR2⟩ := q_farm (xs (nI k + nI 1).toNatClampNeg) (xs (nI k + nI 2).toNatClampNeg) (xs (nI k + nI 3).toNatClampNeg) μ hR
        cases ht
        exact lc_2 (hin 1 (by decide)) (hin 2 (by decide)) (hin 3 (by decide)) hx hm (hnext _ hR2)
      · obtain ⟨r, μ1, μ2, hx, hm, hR2⟩ := q_likes (xs (nI k + nI 1).toNatClampNeg) (xs (nI k + nI 2).toNatClampNeg) (xs (nI k + nI 3).toNatClampNeg) μ hR
        cases ht
        exact lc_3 (hin 1 (by decide)) (hin 2 (by decide)) (hin 3 (by decide)) hx hm (hnext _ hR2)
      · obtain ⟨r, μ1, μ2, hx, hm, hR2⟩ := q_say (xs (nI k + nI 1).toNatClampNeg) μ hR
        cases ht
        exact lc_4 (hin 1 (by decide)) hx hm (hnext _ hR2)
      · obtain ⟨r, μ1, μ2, hx, hm, hR2⟩ := q_wipe μ hR
        cases ht
        exact lc_5  hx hm (hnext _ hR2)
      · obtain ⟨r, hx, hm, hR2⟩ := q_fault μ hR
        cases ht
        exact lc_6  hx hm (hnext _ hR2)
      · obtain ⟨r, μ1, μ2, hx, hm, hR2⟩ := q_judge (xs (nI k + nI 1).toNatClampNeg) μ hR
        cases ht
        exact lc_7 (hin 1 (by decide)) hx hm (hnext _ hR2)
      · obtain ⟨r, μ1, μ2, hx, hm, hR2⟩ := q_done μ hR
        cases ht
        exact lc_8  hx hm (hnext _ hR2)
      · obtain ⟨r, μ1, μ2, hx, hm, hR2⟩ := q_behind (xs (nI k + nI 1).toNatClampNeg) (xs (nI k + nI 2).toNatClampNeg) μ hR
        cases ht
        exact lc_9 (hin 1 (by decide)) (hin 2 (by decide)) hx hm (hnext _ hR2)
      · obtain ⟨r, μ1, μ2, hx, hm, hR2⟩ := q_goes (xs (nI k + nI 1).toNatClampNeg) (xs (nI k + nI 2).toNatClampNeg) μ hR
        cases ht
        exact lc_10 (hin 1 (by decide)) (hin 2 (by decide)) hx hm (hnext _ hR2)
      · obtain ⟨r, μ1, μ2, hx, hm, hR2⟩ := q_then (xs (nI k + nI 1).toNatClampNeg) μ hR
        cases ht
        exact lc_11 (hin 1 (by decide)) hx hm (hnext _ hR2)
      · obtain ⟨r, μ1, μ2, hx, hm, hR2⟩ := q_round (xs (nI k + nI 1).toNatClampNeg) (xs (nI k + nI 2).toNatClampNeg) μ hR
        cases ht
        exact lc_12 (hin 1 (by decide)) (hin 2 (by decide)) hx hm (hnext _ hR2)
      · obtain ⟨r, μ1, μ2, hx, hm, hR2⟩ := q_mends (xs (nI k + nI 1).toNatClampNeg) μ hR
        cases ht
        exact lc_13 (hin 1 (by decide)) hx hm (hnext _ hR2)
      · obtain ⟨r, μ1, hx, hm, hR2⟩ := q_steady μ hR
        cases ht
        exact lc_14  hx hm (hnext _ hR2)
      · obtain ⟨r, μ1, hx, hm, hR2⟩ := q_wed (xs (nI k + nI 1).toNatClampNeg) (xs (nI k + nI 2).toNatClampNeg) (xs (nI k + nI 3).toNatClampNeg) μ hR
        cases ht
        exact lc_15 (hin 1 (by decide)) (hin 2 (by decide)) (hin 3 (by decide)) hx hm (hnext _ hR2)
      · obtain ⟨r, μ1, μ2, hx, hm, hR2⟩ := q_seen (xs (nI k + nI 1).toNatClampNeg) (xs (nI k + nI 2).toNatClampNeg) (xs (nI k + nI 3).toNatClampNeg) μ hR
        cases ht
        exact lc_16 (hin 1 (by decide)) (hin 2 (by decide)) (hin 3 (by decide)) hx hm (hnext _ hR2)
      · obtain ⟨r, μ1, μ2, hx, hm, hR2⟩ := q_forget μ hR
        cases ht
        exact lc_17  hx hm (hnext _ hR2)
      · obtain ⟨r, hx, hm, hR2⟩ := q_posts (xs (nI k + nI 1).toNatClampNeg) μ hR
        cases ht
        exact lc_18 (hin 1 (by decide)) hx hm (hnext _ hR2)
      · obtain ⟨r, μ1, μ2, hx, hm, hR2⟩ := q_ask (xs (nI k + nI 1).toNatClampNeg) μ hR
        cases ht
        exact lc_19 (hin 1 (by decide)) hx hm (hnext _ hR2)
      · obtain ⟨r, μ1, hx, hm, hR2⟩ := q_heaps (xs (nI k + nI 1).toNatClampNeg) (xs (nI k + nI 2).toNatClampNeg) μ hR
        cases ht
        exact lc_20 (hin 1 (by decide)) (hin 2 (by decide)) hx hm (hnext _ hR2)
      · obtain ⟨r, hx, hm, hR2⟩ := q_gust (xs (nI k + nI 1).toNatClampNeg) (xs (nI k + nI 2).toNatClampNeg) (xs (nI k + nI 3).toNatClampNeg) (xs (nI k + nI 4).toNatClampNeg) (xs (nI k + nI 5).toNatClampNeg) μ hR
        cases ht
        exact lc_21 (hin 1 (by decide)) (hin 2 (by decide)) (hin 3 (by decide)) (hin 4 (by decide)) (hin 5 (by decide)) hx hm (hnext _ hR2)
      · obtain ⟨r, μ1, μ2, hx, hm, hR2⟩ := q_year (xs (nI k + nI 1).toNatClampNeg) (xs (nI k + nI 2).toNatClampNeg) (xs (nI k + nI 3).toNatClampNeg) μ hR
        cases ht
        exact lc_22 (hin 1 (by decide)) (hin 2 (by decide)) (hin 3 (by decide)) hx hm (hnext _ hR2)
      · obtain ⟨r, μ1, μ2, hx, hm, hR2⟩ := q_image (xs (nI k + nI 1).toNatClampNeg) μ hR
        cases ht
        exact lc_23 (hin 1 (by decide)) hx hm (hnext _ hR2)
      · obtain ⟨r, μ1, μ2, hx, hm, hR2⟩ := q_restore (xs (nI k + nI 1).toNatClampNeg) μ hR
        cases ht
        exact lc_24 (hin 1 (by decide)) hx hm (hnext _ hR2)
      · obtain ⟨r, μ1, hx, hm, hR2⟩ := q_told (xs (nI k + nI 1).toNatClampNeg) μ hR
        cases ht
        exact lc_25 (hin 1 (by decide)) hx hm (hnext _ hR2)
