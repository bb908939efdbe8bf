/-! the class's moor at place b holds the book B and the roads R -/
def repM (μ : pm_M) (b : Nat) (B R : Nat → Int32) : Prop := rmoor (μ (b + 1)) (μ (b + 2)) (μ (b + 3)) (μ (b + 4)) (μ b 4) B R
def frM (b : Nat) (μ ν : pm_M) : Prop := ∀ j, (j < b ∨ b + 4 < j) → ν j = μ j
theorem frM.rf {b : Nat} {μ : pm_M} : frM b μ μ := fun _ _ => rfl
theorem frM.tr {b : Nat} {μ ν ξ : pm_M} (h1 : frM b μ ν) (h2 : frM b ν ξ) : frM b μ ξ := fun j hj => (h2 j hj).trans (h1 j hj)
theorem frM.up {b : Nat} {μ ν : pm_M} {j i : Nat} {v : Int32} (h : frM b μ ν) (hj : b ≤ j ∧ j ≤ b + 4) : frM b μ (pm_up ν j i v) := fun k hk => by rw [up_o (by omega)]; exact h k hk
theorem nI_inj {a c : Nat} (ha : a < 2 ^ 31) (hc : c < 2 ^ 31) : nI a = nI c ↔ a = c := nI_eq ha hc
theorem sw0 {τ : Type} {x : Int32} {a : Int32} {as : List Int32} {o d : Option τ} {os : List (Option τ)} (h : x = a) : pm_sw x (a :: as) (o :: os) d = o := if_pos h
theorem sw1 {τ : Type} {x : Int32} {a : Int32} {as : List Int32} {o d : Option τ} {os : List (Option τ)} (h : ¬ x = a) : pm_sw x (a :: as) (o :: os) d = pm_sw x as os d := if_neg h
theorem swn {τ : Type} {x : Int32} {d : Option τ} : pm_sw x [] [] d = d := rfl
theorem whyA_0 {B R : Nat → Int32} {a n : Nat} : whyA B R 0 a n = if plA B a = n then 1 else if R (7 * plA B a + n) = 0 then 2 else 0 := rfl
theorem whyA_1 {B R : Nat → Int32} {a n : Nat} : whyA B R 1 a n = if plA B a = a then 3 else if B (7 * a + plA B a) < 0 then 4 else if B (7 * a + plA B a) = 9 then 5 else 0 := rfl
theorem whyA_2 {B R : Nat → Int32} {a n : Nat} : whyA B R 2 a n = if plA B a = a then (if B (7 * a + n) < 0 then 4 else if B (7 * a + n) = 0 then 5 else 0) else 3 := rfl
theorem whyA_3 {B R : Nat → Int32} {a n : Nat} : whyA B R 3 a n = if cpair B 0 9 = 0 then 6 else 0 := rfl
theorem whyA_4 {B R : Nat → Int32} {a n : Nat} : whyA B R 4 a n = if B 63 = 99 then 7 else 0 := rfl
theorem doA_0 {B : Nat → Int32} {a n : Nat} : doA B 0 a n = upd B (49 + a) (nI n) := rfl
theorem doA_1 {B : Nat → Int32} {a n : Nat} : doA B 1 a n = lay B a (plA B a) (mend1 (B (7 * a + plA B a))) := rfl
theorem doA_2 {B : Nat → Int32} {a n : Nat} : doA B 2 a n = lay B a n (B (7 * a + n) / 2) := rfl
theorem doA_3 {B : Nat → Int32} {a n : Nat} : doA B 3 a n = blowA B n := rfl
theorem doA_4 {B : Nat → Int32} {a n : Nat} : doA B 4 a n = dayA B := rfl
section MOOR
variable {b : Nat} {μ : pm_M} {B R : Nat → Int32}
theorem why0 {a n : Nat} (hr : repM μ b B R) (hok : okB B R) (ha : a < 7) (hn : n < 7) : f_X2_whyNot b (nI 0) (nI a) (nI n) μ = some (nI (whyA B R 0 a n)) := by
  obtain ⟨r1, r2, r3, r4, r5⟩ := hr
  obtain ⟨hp, ep⟩ := pl_ok hok ha
  unfold f_X2_whyNot f_X2_whyNoWalk
  rw [sw0 (by decide), whyA_0, plc_eq ha, b_some, r3 a ha, ep]
  by_cases q : plA B a = n
  · rw [if_pos q, if_pos (by rw [q])]; rfl
  · rw [if_neg q, if_neg (nI_ne q (by omega) (by omega)), b_some, milB_eq hp hn, b_some, r2 _ (by omega)]
    by_cases q2 : R (7 * plA B a + n) = 0
    · rw [if_pos q2, if_pos q2]; rfl
    · rw [if_neg q2, if_neg q2]; rfl
theorem wnf {x : Int32} {e : Int32} : f_X2_whyNotFrom x e = some (if x < 0 then 4 else if x = e then 5 else 0) := by
  unfold f_X2_whyNotFrom
  by_cases h : x < 0
  · rw [if_pos h, if_neg (Int32.not_le.mpr h)]
  · rw [if_neg h, if_pos (Int32.not_lt.mp h)]
    split <;> rfl
theorem why1 {a : Nat} {n : Int32} (hr : repM μ b B R) (hok : okB B R) (ha : a < 7) : f_X2_whyNot b (nI 1) (nI a) n μ = some (nI (whyA B R 1 a 0)) := by
  obtain ⟨r1, r2, r3, r4, r5⟩ := hr
  obtain ⟨hp, ep⟩ := pl_ok hok ha
  unfold f_X2_whyNot f_X2_whyNoMending
  rw [sw1 (by decide), sw0 (by decide), whyA_1, plc_eq ha, b_some, r3 a ha, ep]
  by_cases q : plA B a = a
  · rw [if_pos q, if_pos (by rw [q])]; rfl
  · rw [if_neg q, if_neg (nI_ne q (by omega) (by omega)), b_some, strB_eq ha hp, b_some, r1 _ (by omega), wnf, b_some, b_some]
    by_cases q2 : B (7 * a + plA B a) < 0
    · rw [if_pos q2, if_pos q2]; rfl
    · rw [if_neg q2, if_neg q2]
      by_cases q3 : B (7 * a + plA B a) = 9
      · rw [if_pos q3, if_pos q3]; rfl
      · rw [if_neg q3, if_neg q3]; rfl
theorem why2 {a n : Nat} (hr : repM μ b B R) (hok : okB B R) (ha : a < 7) (hn : n < 7) : f_X2_whyNot b (nI 2) (nI a) (nI n) μ = some (nI (whyA B R 2 a n)) := by
  obtain ⟨r1, r2, r3, r4, r5⟩ := hr
  obtain ⟨hp, ep⟩ := pl_ok hok ha
  unfold f_X2_whyNot f_X2_whyNoBreaking
  rw [sw1 (by decide), sw1 (by decide), sw0 (by decide), whyA_2, plc_eq ha, b_some, r3 a ha, ep]
  by_cases q : plA B a = a
  · rw [if_pos q, if_pos (by rw [q]), strB_eq ha hn, b_some, r1 _ (by omega), wnf, b_some, b_some]
    by_cases q2 : B (7 * a + n) < 0
    · rw [if_pos q2, if_pos q2]; rfl
    · rw [if_neg q2, if_neg q2]
      by_cases q3 : B (7 * a + n) = 0
      · rw [if_pos q3, if_pos q3]; rfl
      · rw [if_neg q3, if_neg q3]; rfl
  · rw [if_neg q, if_neg (nI_ne q (by omega) (by omega))]; rfl
theorem cpair_le (s : Nat → Int32) (lo hi : Int32) : cpair s lo hi ≤ 42 := by
  unfold cpair
  have := sumf_le (f := fun a => sumf (fun k => cbit lo hi (s (7 * a + (a + 1 + k)))) (6 - a)) 6 7 (fun a _ => by
    have := sumf_le (f := fun k => cbit lo hi (s (7 * a + (a + 1 + k)))) 1 (6 - a) (fun k _ => cbit_le lo hi _)
    omega)
  omega
theorem why3 {x y : Int32} (hr : repM μ b B R) : f_X2_whyNot b (nI 3) x y μ = some (nI (whyA B R 3 0 0)) := by
  obtain ⟨r1, r2, r3, r4, r5⟩ := hr
  unfold f_X2_whyNot
  rw [sw1 (by decide), sw1 (by decide), sw1 (by decide), sw0 (by decide), whyA_3, cpales_eq, b_some, cpair_congr r1]
  have := cpair_le B 0 9
  by_cases q : cpair B 0 9 = 0
  · rw [if_pos q, if_pos (by rw [q]; rfl)]; rfl
  · rw [if_neg q, if_neg (show ¬ nI (cpair B 0 9) = 0 from nI_ne (c := 0) q (by omega) (by omega))]; rfl
theorem why4 {x y : Int32} (hr : repM μ b B R) (hok : okB B R) : f_X2_whyNot b (nI 4) x y μ = some (nI (whyA B R 4 0 0)) := by
  obtain ⟨r1, r2, r3, r4, r5⟩ := hr
  obtain ⟨d, hd, ed⟩ := hok.2.2.2.2.2.1
  unfold f_X2_whyNot
  rw [sw1 (by decide), sw1 (by decide), sw1 (by decide), sw1 (by decide), swn, whyA_4, r5, ed]
  by_cases q : d = 99
  · subst q; rfl
  · rw [if_pos (show nI d < (99 : Int32) from nI_lt (b := 99) (by omega) (by omega)), if_neg (show ¬ nI d = (99 : Int32) from nI_ne (c := 99) q (by omega) (by omega))]; rfl
/-! doing them -/
theorem rep_lay {a c : Nat} {v : Int32} (hr : repM μ b B R) (ha : a < 7) (hc : c < 7) : repM (pm_up (pm_up μ (b + 1) (7 * a + c) v) (b + 1) (7 * c + a) v) b (lay B a c v) R := by
  obtain ⟨r1, r2, r3, r4, r5⟩ := hr
  have ho : ∀ j, j ≠ b + 1 → pm_up (pm_up μ (b + 1) (7 * a + c) v) (b + 1) (7 * c + a) v j = μ j := fun j g => by rw [up_o g, up_o g]
  have e1 : pm_up (pm_up μ (b + 1) (7 * a + c) v) (b + 1) (7 * c + a) v (b + 1) = lay (μ (b + 1)) a c v := by rw [up_r, up_r]; rfl
  unfold repM
  rw [e1, ho (b + 2) (by omega), ho (b + 3) (by omega), ho (b + 4) (by omega), ho b (by omega)]
  refine ⟨fun i hi => ?_, r2, fun f hf => ?_, fun f hf => ?_, ?_⟩
  · rw [lay_at, lay_at, r1 i hi]
  · rw [lay_hi ha hc (by omega)]; exact r3 f hf
  · rw [lay_hi ha hc (by omega)]; exact r4 f hf
  · rw [lay_hi ha hc (by omega)]; exact r5
theorem perf0 {a n : Nat} (hr : repM μ b B R) (ha : a < 7) (hn : n < 7) : ∃ ν, f_X2_perform b (nI 0) (nI a) (nI n) μ = some ν ∧ repM ν b (doA B 0 a n) R ∧ frM b μ ν := by
  obtain ⟨r1, r2, r3, r4, r5⟩ := hr
  refine ⟨pm_up (pm_up μ (b + 4) a (μ (b + 4) a)) (b + 3) a (nI n), ?_, ?_, (frM.rf.up (by omega)).up (by omega)⟩
  · unfold f_X2_perform
    rw [sw0 (by decide), cow_eq ha, b_some, settle_eq ha hn, b_some]
  · have e3 : pm_up (pm_up μ (b + 4) a (μ (b + 4) a)) (b + 3) a (nI n) (b + 3) = upd (μ (b + 3)) a (nI n) := by rw [up_r, up_o (by omega)]
    have e4 : pm_up (pm_up μ (b + 4) a (μ (b + 4) a)) (b + 3) a (nI n) (b + 4) = μ (b + 4) := by
      rw [up_o (by omega), up_r]
      funext i
      unfold upd
      split
      · rename_i h; rw [h]
      · rfl
    have ho : ∀ j, j ≠ b + 3 → j ≠ b + 4 → pm_up (pm_up μ (b + 4) a (μ (b + 4) a)) (b + 3) a (nI n) j = μ j := fun j g1 g2 => by rw [up_o g1, up_o g2]
    unfold repM
    rw [e3, e4, ho (b + 1) (by omega) (by omega), ho (b + 2) (by omega) (by omega), ho b (by omega) (by omega)]
    rw [doA_0]
    refine ⟨fun i hi => ?_, r2, fun f hf => ?_, fun f hf => ?_, ?_⟩
    · rw [upd_n (by omega)]; exact r1 i hi
    · by_cases q : f = a
      · subst q; rw [upd_s, upd_s]
      · rw [upd_n q, upd_n (by omega)]; exact r3 f hf
    · rw [upd_n (by omega)]; exact r4 f hf
    · rw [upd_n (by omega)]; exact r5
theorem perf1 {a : Nat} {n : Int32} (hr : repM μ b B R) (hok : okB B R) (ha : a < 7) (hw : whyA B R 1 a 0 = 0) : ∃ ν, f_X2_perform b (nI 1) (nI a) n μ = some ν ∧ repM ν b (doA B 1 a 0) R ∧ frM b μ ν := by
  obtain ⟨hp, ep⟩ := pl_ok hok ha
  have hne : a ≠ plA B a := by
    intro q
    rw [whyA_1, if_pos q.symm] at hw
    cases hw
  refine ⟨pm_up (pm_up μ (b + 1) (7 * a + plA B a) (mend1 (B (7 * a + plA B a)))) (b + 1) (7 * plA B a + a) (mend1 (B (7 * a + plA B a))), ?_, rep_lay hr ha hp, (frM.rf.up (by omega)).up (by omega)⟩
  unfold f_X2_perform f_X2_mendPale
  rw [sw1 (by decide), sw0 (by decide), plc_eq ha, b_some, hr.2.2.1 a ha, ep, strB_eq ha hp, b_some, let_eq, hr.1 _ (by omega)]
  show ((f_X2_setStrength b (nI a) (nI (plA B a)) (mend1 (B (7 * a + plA B a))) μ).bind _).bind _ = _
  rw [setS_eq ha hp hne, b_some, b_some]
theorem perf2 {a n : Nat} (hr : repM μ b B R) (hok : okB B R) (ha : a < 7) (hn : n < 7) (hw : whyA B R 2 a n = 0) : ∃ ν, f_X2_perform b (nI 2) (nI a) (nI n) μ = some ν ∧ repM ν b (doA B 2 a n) R ∧ frM b μ ν := by
  have hne : a ≠ n := by
    intro q
    subst q
    rw [whyA_2, show 7 * a + a = 8 * a by omega, hok.2.1 a ha] at hw
    split at hw
    · rw [if_pos neg6] at hw; cases hw
    · cases hw
  refine ⟨pm_up (pm_up μ (b + 1) (7 * a + n) (B (7 * a + n) / 2)) (b + 1) (7 * n + a) (B (7 * a + n) / 2), ?_, rep_lay hr ha hn, (frM.rf.up (by omega)).up (by omega)⟩
  unfold f_X2_perform
  rw [sw1 (by decide), sw1 (by decide), sw0 (by decide), strB_eq ha hn, b_some, hr.1 _ (by omega), setS_eq ha hn hne, b_some]
theorem perf3 {x : Int32} {n : Nat} (hr : repM μ b B R) : ∃ ν, f_X2_perform b (nI 3) x (nI n) μ = some ν ∧ repM ν b (doA B 3 0 n) R ∧ frM b μ ν := by
  obtain ⟨r1, r2, r3, r4, r5⟩ := hr
  refine ⟨pm_row μ (b + 1) (pre 49 (fun i => blow1 n (μ (b + 1) i)) (μ (b + 1))), ?_, ?_, fun j hj => row_o (by omega)⟩
  · unfold f_X2_perform
    rw [sw1 (by decide), sw1 (by decide), sw1 (by decide), sw0 (by decide)]
    have hbl : f_X2_blow b (nI n) μ = some (pm_row μ (b + 1) (pre 49 (fun i => blow1 n (μ (b + 1) i)) (μ (b + 1)))) := by
      unfold f_X2_blow
      refine it_for (fun k => (nI k, pm_row μ (b + 1) (pre k (fun i => blow1 n (μ (b + 1) i)) (μ (b + 1))))) 49 (fun k hk T => ?_) (fun T => ?_) 49 0 5000 (by omega) (by omega) |> fun h => (by rw [pre_0, row_id] at h; exact h)
      · show (if (49 : Int32) ≤ nI k then _ else _) = _
        rw [if_neg (by rw [show (49 : Int32) = nI 49 from rfl]; exact nI_ge hk (by omega))]
        dsimp only
        have ec : pm_row μ (b + 1) (pre k (fun i => blow1 n (μ (b + 1) i)) (μ (b + 1))) (b + 1) k = μ (b + 1) k := by rw [row_r, pre_ge (Nat.le_refl k)]
        rw [ck_in hk (by omega), nI_clamp (by omega), jn_eq]
        simp only [ec]
        have fin : ∀ v : Int32, v = blow1 n (μ (b + 1) k) → pm_up (pm_row μ (b + 1) (pre k (fun i => blow1 n (μ (b + 1) i)) (μ (b + 1)))) (b + 1) k v = pm_row μ (b + 1) (pre (k + 1) (fun i => blow1 n (μ (b + 1) i)) (μ (b + 1))) := by
          intro v hv
          rw [up_row, hv, pre_s k (fun i => blow1 n (μ (b + 1) i))]
        by_cases q : μ (b + 1) k < 0
        · rw [if_pos q, nI_1]
          have e0 : pre (k + 1) (fun i => blow1 n (μ (b + 1) i)) (μ (b + 1)) = pre k (fun i => blow1 n (μ (b + 1) i)) (μ (b + 1)) := by
            rw [← pre_s]
            funext i
            unfold upd
            split
            · rename_i h; rw [h, pre_ge (Nat.le_refl k)]; unfold blow1; rw [if_pos q]
            · rfl
          rw [e0]
        · rw [if_neg q, ck_in hk (by omega), let_eq, ck_in hk (by omega), let_eq, nI_1, fin _ (by unfold blow1; rw [if_neg q])]
      · rfl
    rw [hbl, b_some]
  · unfold repM
    rw [row_r, row_o (by omega), row_o (by omega), row_o (by omega), row_o (by omega)]
    rw [doA_3]
    unfold blowA
    refine ⟨fun i hi => ?_, r2, fun f hf => ?_, fun f hf => ?_, ?_⟩
    · rw [pre_lt hi, pre_lt hi, r1 i hi]
    · rw [pre_ge (by omega)]; exact r3 f hf
    · rw [pre_ge (by omega)]; exact r4 f hf
    · rw [pre_ge (by omega)]; exact r5
end MOOR
