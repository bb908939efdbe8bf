/-! Math.max, Math.min: the machine's own -/
section PMM
variable {τ : Type} {l : Launch} {cc : ByteArray} {own : String} {nL : Nat} {ret : Option FieldType} {R : Room} {g : Bool} {shE : pm_S} {mc ms : Nat} {fin : τ → Option Value × pm_M} {sh : pm_S} {kc ks pc : Nat} {ls : List (Option Value)} {st : List Value} {μ : pm_M} {o : Option τ} {idx : Nat}
theorem mx_code : Cond.code Lib.Math.max.name Lib.Math.max.code 2 (some .int) = Cond.code yJ9_max_7cf53 cJ9_max_7cf53 2 (some .int) := by decide +kernel
theorem mn_code : Cond.code Lib.Math.min.name Lib.Math.min.code 2 (some .int) = Cond.code yJ9_min_7cf53 cJ9_min_7cf53 2 (some .int) := by decide +kernel
theorem pv_mmax {x y : Int32} (hd : decode cc pc = .ok (.invokestatic idx, 3)) (hY : pm_Y yJ9_max_7cf53 cJ9_max_7cf53 2 (some .int) 2) (hL : Cond.methodLink own idx yJ9_max_7cf53 ∈ pm_T ∧ Cond.static yJ9_max_7cf53 ∈ pm_T) (hf : 1 ≤ R.frames) (hlo : (st.map fun v => v.category).sum + 13 ≤ R.locals) (hk : kc ≤ R.cells ∧ ks ≤ R.slots)
    (k : pm_V l cc own nL ret R g shE mc ms fin sh kc ks (pc + 3) ls (.int (if x < y then y else x) :: st) μ o) : pm_V l cc own nL ret R g shE mc ms fin sh kc ks pc ls (.int y :: .int x :: st) μ o := by
  intro z hz p e s m args below meth c D cA ad ad0 n0 A H locs la h1 h2 h3 h4 h5 h6 h7 h8
  have hts := h1.2.2.2.2.2.2.1
  have hcat : (st.map (pm_v ad)).map (fun v => v.category) = st.map (fun v => v.category) := by
    rw [List.map_map]; exact List.map_congr_left (fun v _ => pm_cat ad v)
  exact va_mmax h1.1 h1.2.1 (h1.2.2.1.trans h8.1.symm) h1.2.2.2.1 (hts _ hL.1) (hts _ hL.2) (hts _ hY.2.1) (hts _ (by rw [mx_code]; exact hY.1)) hf (by rw [hcat]; exact hlo) hk.1 hk.2 hd (k z hz p e s m args below meth c D cA ad ad0 n0 A H locs la h1 h2 h3 h4 h5 h6 h7 h8)
theorem pv_mmin {x y : Int32} (hd : decode cc pc = .ok (.invokestatic idx, 3)) (hY : pm_Y yJ9_min_7cf53 cJ9_min_7cf53 2 (some .int) 2) (hL : Cond.methodLink own idx yJ9_min_7cf53 ∈ pm_T ∧ Cond.static yJ9_min_7cf53 ∈ pm_T) (hf : 1 ≤ R.frames) (hlo : (st.map fun v => v.category).sum + 13 ≤ R.locals) (hk : kc ≤ R.cells ∧ ks ≤ R.slots)
    (k : pm_V l cc own nL ret R g shE mc ms fin sh kc ks (pc + 3) ls (.int (if y < x then y else x) :: st) μ o) : pm_V l cc own nL ret R g shE mc ms fin sh kc ks pc ls (.int y :: .int x :: st) μ o := by
  intro z hz p e s m args below meth c D cA ad ad0 n0 A H locs la h1 h2 h3 h4 h5 h6 h7 h8
  have hts := h1.2.2.2.2.2.2.1
  have hcat : (st.map (pm_v ad)).map (fun v => v.category) = st.map (fun v => v.category) := by
    rw [List.map_map]; exact List.map_congr_left (fun v _ => pm_cat ad v)
  exact va_mmin h1.1 h1.2.1 (h1.2.2.1.trans h8.1.symm) h1.2.2.2.1 (hts _ hL.1) (hts _ hL.2) (hts _ hY.2.1) (hts _ (by rw [mn_code]; exact hY.1)) hf (by rw [hcat]; exact hlo) hk.1 hk.2 hd (k z hz p e s m args below meth c D cA ad ad0 n0 A H locs la h1 h2 h3 h4 h5 h6 h7 h8)
end PMM
