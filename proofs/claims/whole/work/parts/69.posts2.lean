theorem okposts : ok_posts Rel := by
  intro p μ hR
  obtain ⟨N, hN, e1, e2, hs, hf, hc⟩ := id hR.2.2.1
  have hs : okSg (μ 55) N := hs
  have hlen : (fitL (μ 55) N).length = cntF (sfit (μ 55) N) 410 := rfl
  have hL := cnt_le (sfit (μ 55) N) 410
  rw [hlen] at hf
  unfold f_X9_posts f_X10_posts f_X6_caseAt
  by_cases q : p = -1
  · refine ⟨nI (cntF (sfit (μ 55) N) 410), by rw [if_pos q, hf], ?_, hR⟩
    refine posts_loop hN e2 hs (fun _ => by rw [if_pos q]) (fun i hi _ z => ?_)
    have := cnt_le (sfit (μ 55) N) i
    exact absurd (z.trans q) (fun y => nI_pos (n := cntF (sfit (μ 55) N) i) (by omega) (by rw [y]; decide))
  rw [if_neg q]
  by_cases h0 : p < 0
  · refine ⟨-6, by rw [if_pos h0, b_some], ?_, hR⟩
    refine posts_loop hN e2 hs (fun _ => by rw [if_neg q]) (fun i hi _ z => ?_)
    have := cnt_le (sfit (μ 55) N) i
    exact absurd h0 (by rw [← z]; exact nI_pos (by omega))
  obtain ⟨k, hk, rfl⟩ := nI_of h0
  rw [if_neg h0, hf]
  by_cases hkl : k < cntF (sfit (μ 55) N) 410
  · have hg : (fitL (μ 55) N)[k]? = some ((fitL (μ 55) N)[k]'(by rw [hlen]; exact hkl)) := List.getElem?_eq_getElem _
    generalize (fitL (μ 55) N)[k]'(by rw [hlen]; exact hkl) = x at hg
    refine ⟨nI x, ?_, ?_, hR⟩
    · rw [if_neg (nI_ge hkl (by omega)), ck_in (by omega) (by omega), nI_clamp (by omega), b_some, hc k x hg]
    · have hx : x < 410 ∧ sfit (μ 55) N x = true := by
        have := List.mem_filter.mp (List.mem_of_getElem? hg)
        exact ⟨List.mem_range.mp this.1, this.2⟩
      refine posts_loop hN e2 hs (fun hno => ?_) (fun i hi hfi z => ?_)
      · exfalso
        refine hno x hx.1 hx.2 ?_
        have hat := fl_at (n := 410) hx.1 hx.2
        have hnd : ((List.range 410).filter (sfit (μ 55) N)).Nodup := List.Pairwise.filter _ List.nodup_range
        have hlt := (List.getElem?_eq_some_iff.mp hat).1
        rw [(List.getElem?_inj hlt hnd).mp (hat.trans hg.symm)]
      · have := cnt_le (sfit (μ 55) N) i
        have e : cntF (sfit (μ 55) N) i = k := (nI_eq (by omega) hk).mp z
        have := fl_at (n := 410) hi hfi
        rw [e] at this
        have hg : ((List.range 410).filter (sfit (μ 55) N))[k]? = some x := hg
        rw [this] at hg
        cases hg
        rfl
  · refine ⟨-6, by rw [if_pos (nI_le (by omega) hk), b_some], ?_, hR⟩
    refine posts_loop hN e2 hs (fun _ => by rw [if_neg q]) (fun i hi hfi z => ?_)
    have h9 := cnt_le (sfit (μ 55) N) i
    have e : cntF (sfit (μ 55) N) i = k := (nI_eq (by omega) hk).mp z
    have := fl_at (n := 410) hi hfi
    rw [e, List.getElem?_eq_none (show cntF (sfit (μ 55) N) 410 ≤ k by omega)] at this
    cases this
