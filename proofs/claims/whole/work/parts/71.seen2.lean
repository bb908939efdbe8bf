theorem fit_lt {sg : Nat → Int32} {N x : Nat} (h : x ∈ fitL sg N) : x < 410 := List.mem_range.mp (List.mem_filter.mp h).1
theorem fit_len (sg : Nat → Int32) (N : Nat) : (fitL sg N).length ≤ 410 := cnt_le (sfit sg N) 410
def sg3 (sg : Nat → Int32) (N d p : Nat) (v : Int32) : Nat → Int32 := upd (upd (upd sg (3 * N) (nI d)) (3 * N + 1) (nI p)) (3 * N + 2) v
theorem sg3_lo {sg : Nat → Int32} {N d p i : Nat} {v : Int32} (h : i < 3 * N) : sg3 sg N d p v i = sg i := by
  unfold sg3
  rw [upd_n (by omega), upd_n (by omega), upd_n (by omega)]
theorem sg3_0 {sg : Nat → Int32} {N d p : Nat} {v : Int32} : sg3 sg N d p v (3 * N) = nI d := by
  unfold sg3
  rw [upd_n (by omega), upd_n (by omega), upd_s]
theorem sg3_1 {sg : Nat → Int32} {N d p : Nat} {v : Int32} : sg3 sg N d p v (3 * N + 1) = nI p := by
  unfold sg3
  rw [upd_n (by omega), upd_s]
theorem sg3_2 {sg : Nat → Int32} {N d p : Nat} {v : Int32} : sg3 sg N d p v (3 * N + 2) = v := by
  unfold sg3
  rw [upd_s]
theorem fit_s {sg : Nat → Int32} {N d p : Nat} {v : Int32} (hd : d ≤ 5) (hp : p ≤ 99) : fitL (sg3 sg N d p v) (N + 1) = (fitL sg N).filter (fun x => downB x d p == decide (v = 1)) := by
  unfold fitL
  rw [List.filter_filter]
  congr 1
  funext c
  have hlo : ∀ j, j < N → sm (sg3 sg N d p v) c j = sm sg c j := fun j hj => by
    unfold sm
    rw [sg3_lo (by omega), sg3_lo (by omega), sg3_lo (by omega)]
  have hN : sm (sg3 sg N d p v) c N = (downB c d p == decide (v = 1)) := by
    unfold sm
    rw [sg3_0, sg3_1, sg3_2, nI_clamp (by omega), nI_clamp (by omega)]
  rw [Bool.eq_iff_iff, Bool.and_eq_true, sfit_iff, sfit_iff, ← hN]
  constructor
  · exact fun h => ⟨h N (by omega), fun j hj => by rw [← hlo j hj]; exact h j (by omega)⟩
  · rintro ⟨h1, h2⟩ j hj
    rcases Nat.eq_or_lt_of_le (show j ≤ N by omega) with z | z
    · rw [z]; exact h1
    · rw [hlo j z]; exact h2 j z
theorem okseen : ok_seen Rel := by
  intro p1 p2 p3 μ hR
  obtain ⟨N, hN, e1, e2, hs, hf, hc⟩ := id hR.2.2.1
  have hv : (if p3 = 0 then (0 : Int32) else 1) = 0 ∨ (if p3 = 0 then (0 : Int32) else 1) = 1 := by
    split
    · exact Or.inl rfl
    · exact Or.inr rfl
  generalize (if p3 = 0 then (0 : Int32) else 1) = v at hv
  unfold f_X9_seen
  rcases in_or p1 (n := 6) (by omega) with h | ⟨d, hd, rfl⟩
  · refine ⟨-2, μ, μ, ?_, ?_, hR⟩
    · rcases h with h | h
      · rw [if_pos h]
      · rw [if_neg (not_both h (by omega)), if_pos (Int32.lt_of_lt_of_le (show (5 : Int32) < nI 6 by decide) h)]
    · unfold f_X10_seen
      rcases h with h | h
      · rw [x10_in_lo h, b_some, if_pos rfl]
      · rw [x10_in_hi (Int32.lt_of_lt_of_le (show (5 : Int32) < nI 6 by decide) h), b_some, if_pos rfl]
  rw [if_neg (nI_pos (by omega)), if_neg (show ¬ (5 : Int32) < nI _ from Int32.not_lt.mpr (nI_le (b := 5) (by omega) (by omega)))]
  have m5 : f_X10_in (nI d) 0 5 = some 1 := x10_in_in (nI_pos' (by omega)) (nI_le (b := 5) (by omega) (by omega))
  rcases in_or p2 (n := 100) (by omega) with h | ⟨p, hp, rfl⟩
  · refine ⟨-2, μ, μ, ?_, ?_, hR⟩
    · rcases h with h | h
      · rw [if_pos h]
      · rw [if_neg (not_both h (by omega)), if_neg (show ¬ p2 < (100 : Int32) from Int32.not_lt.mpr h)]
    · unfold f_X10_seen
      rw [m5, b_some, if_neg (by decide)]
      rcases h with h | h
      · rw [x10_in_lo h, b_some, if_pos rfl]
      · rw [x10_in_hi (Int32.lt_of_lt_of_le (show (99 : Int32) < nI 100 by decide) h), b_some, if_pos rfl]
  rw [if_neg (nI_pos (by omega)), if_pos (show nI _ < (100 : Int32) from nI_lt (b := 100) hp (by omega))]
  have m99 : f_X10_in (nI p) 0 99 = some 1 := x10_in_in (nI_pos' (by omega)) (nI_le (b := 99) (by omega) (by omega))
  unfold f_X6_add
  by_cases q : N = 8
  · refine ⟨-4, μ, μ, ?_, ?_, hR⟩
    · rw [if_neg (show ¬ μ 10 3 < 8 by rw [e1, q]; decide), b_some, if_pos rfl]
    · unfold f_X10_seen
      rw [m5, b_some, if_neg (by decide), m99, b_some, if_neg (by decide), if_pos (show μ 50 4 = 8 by rw [e2, q]; rfl)]
  have hN8 : N < 8 := by omega
  rw [if_pos (show μ 10 3 < 8 by rw [e1]; exact nI_lt (b := 8) hN8 (by omega)), let_eq]
  have hs : okSg (μ 55) N := hs
  refine add_loop (μ0 := pm_up μ 10 3 (μ 10 3 + 1)) (L := fitL (μ 55) N) (fun x => downB x d p == decide (v = 1)) (fit_len _ _) (fun x hx => fit_lt hx) (by omega) (by omega) (by rw [up_r, upd_n (by decide), hf]) (fun k x hx => by rw [up_o (by decide)]; exact hc k x hx) (fun x hx => ?_) (fun o => ∃ r μ1 μ2, o.bind (fun r1 => (if r1.1 = 0 then (some ((-4 : Int32), r1.2)) else (some ((r1.2 10 3), r1.2)))) = some (r, μ1) ∧ f_X10_seen (nI d) (nI p) v μ1 = some (r, μ2) ∧ Rel μ2) (fun ν f1 f2 => ?_)
  · cases downB x d p <;> rcases hv with rfl | rfl <;> decide
  have g4 : ν 50 4 = nI N := by rw [f1 50 (by decide), up_o (by decide), e2]
  have g3 : ν 10 3 = nI (N + 1) := by rw [f1 10 (by decide), up_r, upd_s, e1, nI_1]
  refine ⟨nI (N + 1), pm_up ν 10 2 (nI ((fitL (μ 55) N).filter (fun x => downB x d p == decide (v = 1))).length), pm_up (pm_up (pm_up (pm_up (pm_up ν 10 2 (nI ((fitL (μ 55) N).filter (fun x => downB x d p == decide (v = 1))).length)) 55 (3 * N) (nI d)) 55 (3 * N + 1) (nI p)) 55 (3 * N + 2) v) 50 4 (nI (N + 1)), ?_, ?_, ?_⟩
  · rw [let_eq, b_some]
    dsimp only
    rw [if_neg (by decide), up_r, upd_n (by decide), g3]
  · unfold f_X10_seen
    rw [m5, b_some, if_neg (by decide), m99, b_some, if_neg (by decide), up_o (by decide), g4, if_neg (show ¬ nI N = 8 from nI_ne (c := 8) q (by omega) (by omega))]
    rw [show (3 : Int32) * nI N = nI (3 * N) from pk_mul 3 N, ck_in (by omega) (by omega), nI_clamp (by omega), let_eq, up_o (by decide), up_o (by decide), g4]
    rw [show (3 : Int32) * nI N = nI (3 * N) from pk_mul 3 N, show nI (3 * N) + (1 : Int32) = nI (3 * N + 1) from nI_1 _, ck_in (by omega) (by omega), nI_clamp (by omega), let_eq, up_o (by decide), up_o (by decide), up_o (by decide), g4]
    rw [show (3 : Int32) * nI N = nI (3 * N) from pk_mul 3 N, show nI (3 * N) + (2 : Int32) = nI (3 * N + 2) from nI_add _ 2, jn_if, ck_in (by omega) (by omega), nI_clamp (by omega), let_eq, up_o (by decide), up_o (by decide), up_o (by decide), up_o (by decide), g4, nI_1, let_eq, up_r, upd_s]
    rw [show (if v = 0 then (0 : Int32) else 1) = v by rcases hv with rfl | rfl <;> decide]
  · refine Rel_sig hR (fun j a b c e => ?_) ?_ ?_
    · rw [up_o e, up_o c, up_o c, up_o c, up_o a, f1 j b, up_o a]
    · rw [up_r, upd_n (by decide), up_o (by decide), up_o (by decide), up_o (by decide), up_o (by decide), f1 50 (by decide), up_o (by decide)]
    · have h55 : pm_up (pm_up (pm_up (pm_up (pm_up ν 10 2 (nI ((fitL (μ 55) N).filter (fun x => downB x d p == decide (v = 1))).length)) 55 (3 * N) (nI d)) 55 (3 * N + 1) (nI p)) 55 (3 * N + 2) v) 50 4 (nI (N + 1)) 55 = sg3 (μ 55) N d p v := by
        unfold sg3
        rw [up_o (by decide), up_r, up_r, up_r, up_o (by decide), f1 55 (by decide), up_o (by decide)]
      unfold R3
      rw [h55]
      refine ⟨N + 1, by omega, ?_, ?_, fun j hj => ?_, ?_, fun k x hx => ?_⟩
      · rw [up_o (by decide), up_o (by decide), up_o (by decide), up_o (by decide), up_r, upd_n (by decide), g3]
      · rw [up_r, upd_s]
      · rcases Nat.eq_or_lt_of_le (show j ≤ N by omega) with z | z
        · rw [z, sg3_0, sg3_1, sg3_2]
          exact ⟨⟨d, by omega, rfl⟩, ⟨p, by omega, rfl⟩, hv⟩
        · rw [sg3_lo (by omega), sg3_lo (by omega), sg3_lo (by omega)]
          exact hs j z
      · rw [up_o (by decide), up_o (by decide), up_o (by decide), up_o (by decide), up_r, upd_s, fit_s (by omega) (by omega)]
      · rw [fit_s (by omega) (by omega)] at hx
        rw [up_o (by decide), up_o (by decide), up_o (by decide), up_o (by decide), up_o (by decide)]
        exact f2 k x hx
