def f_X0_power_b5 (p0 : Int32) (p1 : Int32) (v5 : (Int64 × Int32)) (T5 : ((Int64 × Int32) → Option Int64)) (E5 : (Int64 → Option Int64)) : Option Int64 :=
  (if p1 ≤ v5.2 then (E5 v5.1) else pm_let (v5.1 * (Int32.toInt64 p0)) (fun x1 => (T5 (x1, (v5.2 + 1)))))
def f_X0_power (p0 : Int32) (p1 : Int32) : Option Int64 :=
  (pm_it (f_X0_power_b5 p0 p1) 5000 ((1 : Int64), (0 : Int32)) (fun e5 => (some e5)))
abbrev rm_X0_power : Room := { frames := 0, cells := 0, slots := 0, locals := 0 }
set_option maxRecDepth 20000 in
set_option maxHeartbeats 2000000 in
theorem k_X0_power (l : Launch) (sh : pm_S) (p0 : Int32) (p1 : Int32) (μ : pm_M) : pm_Ok l yX0_power cX0_power 5 (some .long) rm_X0_power [.int p0, .int p1] sh false sh 0 0 (fun r => (some (.long r), μ)) μ (f_X0_power p0 p1) := by
  refine pm_enter (own := RX0) (by decide) rfl (fun h => by cases h) (ls := [some (.int p0), some (.int p1), none, none, none]) rfl (fun _ => Nat.le_of_ble_eq_true rfl) ?_
  unfold f_X0_power
  refine pv_lconst (v := 1) dX0_power_0 (by decide) ?_
  refine pv_lstore_n (ls' := [some (.int p0), some (.int p1), some (.long (1 : Int64)), none, none]) dX0_power_1 (Nat.le_of_ble_eq_true rfl) rfl ?_
  refine pv_iconst (v := 0) dX0_power_2 (by decide) ?_
  refine pv_istore (ls' := [some (.int p0), some (.int p1), some (.long (1 : Int64)), none, some (.int (0 : Int32))]) dX0_power_3 (Nat.le_of_ble_eq_true rfl) rfl ?_
  refine pv_loop (body := (f_X0_power_b5 p0 p1)) (pcE := 22) (lsf := fun v5 => [some (.int p0), some (.int p1), some (.long v5.1), none, some (.int v5.2)]) (mf := fun v5 => μ) (lsE := fun e5 => [none, none, some (.long e5), none, none]) (mE := fun e5 => μ) (fun e5 => ?_) (fun E5 hE5 T5 hT5 v5 => ?_) 5000 ((1 : Int64), (0 : Int32))
  · refine pv_lload_n dX0_power_22 rfl ?_
    exact pv_lret dX0_power_23 rfl rfl
  · unfold f_X0_power_b5
    refine pv_iload dX0_power_5 rfl ?_
    refine pv_iload_n dX0_power_7 rfl ?_
    refine pv_icmp_ge (tgt := 22) dX0_power_8 (by decide) ?_ ?_
    · refine pv_mask (ls' := [none, none, some (.long v5.1), none, none]) [false, false, true, false, false] rfl ?_
      exact hE5 v5.1
    · refine pv_lload_n dX0_power_11 rfl ?_
      refine pv_iload_n dX0_power_12 rfl ?_
      refine pv_i2l dX0_power_13 ?_
      refine pv_lmul dX0_power_14 ?_
      refine pv_letl (fun x1 => ?_)
      refine pv_lstore_n (ls' := [some (.int p0), some (.int p1), some (.long x1), none, some (.int v5.2)]) dX0_power_15 (Nat.le_of_ble_eq_true rfl) rfl ?_
      refine pv_iinc (v := (v5.2 + 1)) (ls' := [some (.int p0), some (.int p1), some (.long x1), none, some (.int (v5.2 + 1))]) dX0_power_16 rfl rfl (Nat.le_of_ble_eq_true rfl) rfl ?_
      refine pv_goto (tgt := 5) dX0_power_19 (by decide) ?_
      exact hT5 (x1, (v5.2 + 1))
def f_X0_waysOfJust (p0 : Int32) (p1 : Int32) : Option Int64 :=
  (f_X0_power p1 p0).bind (fun r1 => (f_X0_power (p1 - (1 : Int32)) p0).bind (fun r2 => (some (r1 - r2))))
abbrev rm_X0_waysOfJust : Room := { frames := 1, cells := 0, slots := 0, locals := 24 }
set_option maxRecDepth 20000 in
set_option maxHeartbeats 2000000 in
theorem k_X0_waysOfJust (l : Launch) (sh : pm_S) (p0 : Int32) (p1 : Int32) (μ : pm_M) : pm_Ok l yX0_waysOfJust cX0_waysOfJust 2 (some .long) rm_X0_waysOfJust [.int p0, .int p1] sh false sh 0 0 (fun r => (some (.long r), μ)) μ (f_X0_waysOfJust p0 p1) := by
  refine pm_enter (own := RX0) (by decide) rfl (fun h => by cases h) (ls := [some (.int p0), some (.int p1)]) rfl (fun _ => Nat.le_of_ble_eq_true rfl) ?_
  unfold f_X0_waysOfJust
  refine pv_iload_n dX0_waysOfJust_0 rfl ?_
  refine pv_iload_n dX0_waysOfJust_1 rfl ?_
  refine pv_cs_rl (rest := []) dX0_waysOfJust_2 my_X0_power sl_X0_7 (k_X0_power l sh p1 p0 μ) rfl ⟨rfl, rfl, Nat.le_of_ble_eq_true rfl, Nat.le_of_ble_eq_true rfl⟩ ⟨Nat.zero_le _, Nat.zero_le _⟩ (Nat.le_of_ble_eq_true rfl) rfl (fun r1 => ?_)
  refine pv_iload_n dX0_waysOfJust_5 rfl ?_
  refine pv_iconst (v := 1) dX0_waysOfJust_6 (by decide) ?_
  refine pv_isub dX0_waysOfJust_7 ?_
  refine pv_iload_n dX0_waysOfJust_8 rfl ?_
  refine pv_cs_rl (rest := [.long r1]) dX0_waysOfJust_9 my_X0_power sl_X0_7 (k_X0_power l sh (p1 - (1 : Int32)) p0 μ) rfl ⟨rfl, rfl, Nat.le_of_ble_eq_true rfl, Nat.le_of_ble_eq_true rfl⟩ ⟨Nat.zero_le _, Nat.zero_le _⟩ (Nat.le_of_ble_eq_true rfl) rfl (fun r2 => ?_)
  refine pv_lsub dX0_waysOfJust_12 ?_
  exact pv_lret dX0_waysOfJust_13 rfl rfl
def f_X0_sumOfStrongest_b5 (p0 : Int32) (p1 : Int32) (v5 : (Int64 × Int32)) (T5 : ((Int64 × Int32) → Option Int64)) (E5 : (Int64 → Option Int64)) : Option Int64 :=
  (if p1 < v5.2 then (E5 v5.1) else (f_X0_waysOfJust p0 v5.2).bind (fun r1 => pm_let (v5.1 + ((Int32.toInt64 v5.2) * r1)) (fun x2 => (T5 (x2, (v5.2 + 1))))))
def f_X0_sumOfStrongest (p0 : Int32) (p1 : Int32) : Option Int64 :=
  (pm_it (f_X0_sumOfStrongest_b5 p0 p1) 5000 ((0 : Int64), (1 : Int32)) (fun e5 => (some e5)))
abbrev rm_X0_sumOfStrongest : Room := { frames := 2, cells := 0, slots := 0, locals := 45 }
set_option maxRecDepth 20000 in
set_option maxHeartbeats 2000000 in
theorem k_X0_sumOfStrongest (l : Launch) (sh : pm_S) (p0 : Int32) (p1 : Int32) (μ : pm_M) : pm_Ok l yX0_sumOfStrongest cX0_sumOfStrongest 5 (some .long) rm_X0_sumOfStrongest [.int p0, .int p1] sh false sh 0 0 (fun r => (some (.long r), μ)) μ (f_X0_sumOfStrongest p0 p1) := by
  refine pm_enter (own := RX0) (by decide) rfl (fun h => by cases h) (ls := [some (.int p0), some (.int p1), none, none, none]) rfl (fun _ => Nat.le_of_ble_eq_true rfl) ?_
  unfold f_X0_sumOfStrongest
  refine pv_lconst (v := 0) dX0_sumOfStrongest_0 (by decide) ?_
  refine pv_lstore_n (ls' := [some (.int p0), some (.int p1), some (.long (0 : Int64)), none, none]) dX0_sumOfStrongest_1 (Nat.le_of_ble_eq_true rfl) rfl ?_
  refine pv_iconst (v := 1) dX0_sumOfStrongest_2 (by decide) ?_
  refine pv_istore (ls' := [some (.int p0), some (.int p1), some (.long (0 : Int64)), none, some (.int (1 : Int32))]) dX0_sumOfStrongest_3 (Nat.le_of_ble_eq_true rfl) rfl ?_
  refine pv_loop (body := (f_X0_sumOfStrongest_b5 p0 p1)) (pcE := 30) (lsf := fun v5 => [some (.int p0), some (.int p1), some (.long v5.1), none, some (.int v5.2)]) (mf := fun v5 => μ) (lsE := fun e5 => [none, none, some (.long e5), none, none]) (mE := fun e5 => μ) (fun e5 => ?_) (fun E5 hE5 T5 hT5 v5 => ?_) 5000 ((0 : Int64), (1 : Int32))
  · refine pv_lload_n dX0_sumOfStrongest_30 rfl ?_
    exact pv_lret dX0_sumOfStrongest_31 rfl rfl
  · unfold f_X0_sumOfStrongest_b5
    refine pv_iload dX0_sumOfStrongest_5 rfl ?_
    refine pv_iload_n dX0_sumOfStrongest_7 rfl ?_
    refine pv_icmp_gt (tgt := 30) dX0_sumOfStrongest_8 (by decide) ?_ ?_
    · refine pv_mask (ls' := [none, none, some (.long v5.1), none, none]) [false, false, true, false, false] rfl ?_
      exact hE5 v5.1
    · refine pv_lload_n dX0_sumOfStrongest_11 rfl ?_
      refine pv_iload dX0_sumOfStrongest_12 rfl ?_
      refine pv_i2l dX0_sumOfStrongest_14 ?_
      refine pv_iload_n dX0_sumOfStrongest_15 rfl ?_
      refine pv_iload dX0_sumOfStrongest_16 rfl ?_
      refine pv_cs_rl (rest := [.long (Int32.toInt64 v5.2), .long v5.1]) dX0_sumOfStrongest_18 my_X0_waysOfJust sl_X0_13 (k_X0_waysOfJust l sh p0 v5.2 μ) rfl ⟨rfl, rfl, Nat.le_of_ble_eq_true rfl, Nat.le_of_ble_eq_true rfl⟩ ⟨Nat.zero_le _, Nat.zero_le _⟩ (Nat.le_of_ble_eq_true rfl) rfl (fun r1 => ?_)
      refine pv_lmul dX0_sumOfStrongest_21 ?_
      refine pv_ladd dX0_sumOfStrongest_22 ?_
      refine pv_letl (fun x2 => ?_)
      refine pv_lstore_n (ls' := [some (.int p0), some (.int p1), some (.long x2), none, some (.int v5.2)]) dX0_sumOfStrongest_23 (Nat.le_of_ble_eq_true rfl) rfl ?_
      refine pv_iinc (v := (v5.2 + 1)) (ls' := [some (.int p0), some (.int p1), some (.long x2), none, some (.int (v5.2 + 1))]) dX0_sumOfStrongest_24 rfl rfl (Nat.le_of_ble_eq_true rfl) rfl ?_
      refine pv_goto (tgt := 5) dX0_sumOfStrongest_27 (by decide) ?_
      exact hT5 (x2, (v5.2 + 1))
def f_X0_greatestCommon_b9  (v9 : (Int64 × Int64 × Int32)) (T9 : ((Int64 × Int64 × Int32) → Option Int64)) (E9 : (Int64 → Option Int64)) : Option Int64 :=
  (if (100 : Int32) ≤ v9.2.2 then (E9 v9.1) else (if (lg_cmp v9.2.1 (0 : Int64)) = 0 then (E9 v9.1) else (if v9.2.1 = 0 then none else pm_let (pm_lrem v9.1 v9.2.1) (fun x1 => (T9 (v9.2.1, x1, (v9.2.2 + 1)))))))
def f_X0_greatestCommon (p0 : Int64) (p2 : Int64) : Option Int64 :=
  (pm_it f_X0_greatestCommon_b9 5000 (p0, p2, (0 : Int32)) (fun e9 => (some e9)))
abbrev rm_X0_greatestCommon : Room := { frames := 0, cells := 0, slots := 0, locals := 0 }
set_option maxRecDepth 20000 in
set_option maxHeartbeats 2000000 in
theorem k_X0_greatestCommon (l : Launch) (sh : pm_S) (p0 : Int64) (p2 : Int64) (μ : pm_M) : pm_Ok l yX0_greatestCommon cX0_greatestCommon 11 (some .long) rm_X0_greatestCommon [.long p0, .long p2] sh false sh 0 0 (fun r => (some (.long r), μ)) μ (f_X0_greatestCommon p0 p2) := by
  refine pm_enter (own := RX0) (by decide) rfl (fun h => by cases h) (ls := [some (.long p0), none, some (.long p2), none, none, none, none, none, none, none, none]) rfl (fun _ => Nat.le_of_ble_eq_true rfl) ?_
  unfold f_X0_greatestCommon
  refine pv_lload_n dX0_greatestCommon_0 rfl ?_
  refine pv_lstore (ls' := [some (.long p0), none, some (.long p2), none, some (.long p0), none, none, none, none, none, none]) dX0_greatestCommon_1 (Nat.le_of_ble_eq_true rfl) rfl ?_
  refine pv_lload_n dX0_greatestCommon_3 rfl ?_
  refine pv_lstore (ls' := [some (.long p0), none, some (.long p2), none, some (.long p0), none, some (.long p2), none, none, none, none]) dX0_greatestCommon_4 (Nat.le_of_ble_eq_true rfl) rfl ?_
  refine pv_iconst (v := 0) dX0_greatestCommon_6 (by decide) ?_
  refine pv_istore (ls' := [some (.long p0), none, some (.long p2), none, some (.long p0), none, some (.long p2), none, some (.int (0 : Int32)), none, none]) dX0_greatestCommon_7 (Nat.le_of_ble_eq_true rfl) rfl ?_
  refine pv_mask (ls' := [none, none, none, none, some (.long p0), none, some (.long p2), none, some (.int (0 : Int32)), none, none]) [false, false, false, false, true, false, true, false, true, false, false] rfl ?_
  refine pv_loop (body := f_X0_greatestCommon_b9) (pcE := 44) (lsf := fun v9 => [none, none, none, none, some (.long v9.1), none, some (.long v9.2.1), none, some (.int v9.2.2), none, none]) (mf := fun v9 => μ) (lsE := fun e9 => [none, none, none, none, some (.long e9), none, none, none, none, none, none]) (mE := fun e9 => μ) (fun e9 => ?_) (fun E9 hE9 T9 hT9 v9 => ?_) 5000 (p0, p2, (0 : Int32))
  · refine pv_lload dX0_greatestCommon_44 rfl ?_
    exact pv_lret dX0_greatestCommon_46 rfl rfl
  · unfold f_X0_greatestCommon_b9
    refine pv_iload dX0_greatestCommon_9 rfl ?_
    refine pv_bipush (v := 100) dX0_greatestCommon_11 (by decide) ?_
    refine pv_icmp_ge (tgt := 44) dX0_greatestCommon_13 (by decide) ?_ ?_
    · refine pv_mask (ls' := [none, none, none, none, some (.long v9.1), none, none, none, none, none, none]) [false, false, false, false, true, false, false, false, false, false, false] rfl ?_
      exact hE9 v9.1
    · refine pv_lload dX0_greatestCommon_16 rfl ?_
      refine pv_lconst (v := 0) dX0_greatestCommon_18 (by decide) ?_
      refine pv_lcmp dX0_greatestCommon_19 ?_
      refine pv_if_eq (tgt := 44) dX0_greatestCommon_20 (by decide) ?_ ?_
      · refine pv_mask (ls' := [none, none, none, none, some (.long v9.1), none, none, none, none, none, none]) [false, false, false, false, true, false, false, false, false, false, false] rfl ?_
        exact hE9 v9.1
      · refine pv_lload dX0_greatestCommon_23 rfl ?_
        refine pv_lload dX0_greatestCommon_25 rfl ?_
        refine pv_lrem dX0_greatestCommon_27 ?_
        refine pv_letl (fun x1 => ?_)
        refine pv_lstore (ls' := [none, none, none, none, some (.long v9.1), none, some (.long v9.2.1), none, some (.int v9.2.2), some (.long x1), none]) dX0_greatestCommon_28 (Nat.le_of_ble_eq_true rfl) rfl ?_
        refine pv_lload dX0_greatestCommon_30 rfl ?_
        refine pv_lstore (ls' := [none, none, none, none, some (.long v9.2.1), none, some (.long v9.2.1), none, some (.int v9.2.2), some (.long x1), none]) dX0_greatestCommon_32 (Nat.le_of_ble_eq_true rfl) rfl ?_
        refine pv_lload dX0_greatestCommon_34 rfl ?_
        refine pv_lstore (ls' := [none, none, none, none, some (.long v9.2.1), none, some (.long x1), none, some (.int v9.2.2), some (.long x1), none]) dX0_greatestCommon_36 (Nat.le_of_ble_eq_true rfl) rfl ?_
        refine pv_iinc (v := (v9.2.2 + 1)) (ls' := [none, none, none, none, some (.long v9.2.1), none, some (.long x1), none, some (.int (v9.2.2 + 1)), some (.long x1), none]) dX0_greatestCommon_38 rfl rfl (Nat.le_of_ble_eq_true rfl) rfl ?_
        refine pv_goto (tgt := 9) dX0_greatestCommon_41 (by decide) ?_
        refine pv_mask (ls' := [none, none, none, none, some (.long v9.2.1), none, some (.long x1), none, some (.int (v9.2.2 + 1)), none, none]) [false, false, false, false, true, false, true, false, true, false, false] rfl ?_
        exact hT9 (v9.2.1, x1, (v9.2.2 + 1))
def f_X0_partInLowestTerms (p0 : Int64) (p2 : Int64) (p4 : Int32) : Option Int64 :=
  (f_X0_greatestCommon p0 p2).bind (fun r1 => (pm_jn (fun (a2 : Int64) => (if (lg_cmp r1 (1 : Int64)) ≤ 0 then (some a2) else (if r1 = 0 then none else (some (a2 / r1))))) (fun j17 => (if p4 = 0 then (j17 p0) else (j17 p2)))))
abbrev rm_X0_partInLowestTerms : Room := { frames := 1, cells := 0, slots := 0, locals := 30 }
set_option maxRecDepth 20000 in
set_option maxHeartbeats 2000000 in
theorem k_X0_partInLowestTerms (l : Launch) (sh : pm_S) (p0 : Int64) (p2 : Int64) (p4 : Int32) (μ : pm_M) : pm_Ok l yX0_partInLowestTerms cX0_partInLowestTerms 9 (some .long) rm_X0_partInLowestTerms [.long p0, .long p2, .int p4] sh false sh 0 0 (fun r => (some (.long r), μ)) μ (f_X0_partInLowestTerms p0 p2 p4) := by
  refine pm_enter (own := RX0) (by decide) rfl (fun h => by cases h) (ls := [some (.long p0), none, some (.long p2), none, some (.int p4), none, none, none, none]) rfl (fun _ => Nat.le_of_ble_eq_true rfl) ?_
  unfold f_X0_partInLowestTerms
  refine pv_lload_n dX0_partInLowestTerms_0 rfl ?_
  refine pv_lload_n dX0_partInLowestTerms_1 rfl ?_
  refine pv_cs_rl (rest := []) dX0_partInLowestTerms_2 my_X0_greatestCommon sl_X0_16 (k_X0_greatestCommon l sh p0 p2 μ) rfl ⟨rfl, rfl, Nat.le_of_ble_eq_true rfl, Nat.le_of_ble_eq_true rfl⟩ ⟨Nat.zero_le _, Nat.zero_le _⟩ (Nat.le_of_ble_eq_true rfl) rfl (fun r1 => ?_)
  refine pv_lstore (ls' := [some (.long p0), none, some (.long p2), none, some (.int p4), some (.long r1), none, none, none]) dX0_partInLowestTerms_5 (Nat.le_of_ble_eq_true rfl) rfl ?_
  refine pv_iload dX0_partInLowestTerms_7 rfl ?_
  refine pv_jn (pcJ := 17) (lsJ := fun a2 => [none, none, none, none, none, some (.long r1), none, none, none]) (stJ := fun a2 => [.long a2]) (mJ := fun a2 => μ) (fun a2 => ?_) (fun j17 hj17 => ?_)
  · refine pv_lstore (ls' := [none, none, none, none, none, some (.long r1), none, some (.long a2), none]) dX0_partInLowestTerms_17 (Nat.le_of_ble_eq_true rfl) rfl ?_
    refine pv_lload dX0_partInLowestTerms_19 rfl ?_
    refine pv_lconst (v := 1) dX0_partInLowestTerms_21 (by decide) ?_
    refine pv_lcmp dX0_partInLowestTerms_22 ?_
    refine pv_if_le (tgt := 34) dX0_partInLowestTerms_23 (by decide) ?_ ?_
    · refine pv_lload dX0_partInLowestTerms_34 rfl ?_
      exact pv_lret dX0_partInLowestTerms_36 rfl rfl
    · refine pv_lload dX0_partInLowestTerms_26 rfl ?_
      refine pv_lload dX0_partInLowestTerms_28 rfl ?_
      refine pv_ldiv dX0_partInLowestTerms_30 ?_
      refine pv_goto (tgt := 36) dX0_partInLowestTerms_31 (by decide) ?_
      exact pv_lret dX0_partInLowestTerms_36 rfl rfl
  · refine pv_if_ne (tgt := 16) dX0_partInLowestTerms_9 (by decide) ?_ ?_
    · refine pv_lload_n dX0_partInLowestTerms_16 rfl ?_
      refine pv_mask (ls' := [none, none, none, none, none, some (.long r1), none, none, none]) [false, false, false, false, false, true, false, false, false] rfl ?_
      exact hj17 p2
    · refine pv_lload_n dX0_partInLowestTerms_12 rfl ?_
      refine pv_goto (tgt := 17) dX0_partInLowestTerms_13 (by decide) ?_
      refine pv_mask (ls' := [none, none, none, none, none, some (.long r1), none, none, none]) [false, false, false, false, false, true, false, false, false] rfl ?_
      exact hj17 p0
def f_X9_isZeroOrOne (p0 : Int32) : Option Int32 :=
  (if p0 = 0 then (some (1 : Int32)) else (if p0 = (1 : Int32) then (some (1 : Int32)) else (some (0 : Int32))))
abbrev rm_X9_isZeroOrOne : Room := { frames := 0, cells := 0, slots := 0, locals := 0 }
set_option maxRecDepth 20000 in
set_option maxHeartbeats 2000000 in
theorem k_X9_isZeroOrOne (l : Launch) (sh : pm_S) (p0 : Int32) (μ : pm_M) : pm_Ok l yX9_isZeroOrOne cX9_isZeroOrOne 1 (some .boolean) rm_X9_isZeroOrOne [.int p0] sh false sh 0 0 (fun r => (some (.int r), μ)) μ (f_X9_isZeroOrOne p0) := by
  refine pm_enter (own := RX9) (by decide) rfl (fun h => by cases h) (ls := [some (.int p0)]) rfl (fun _ => Nat.le_of_ble_eq_true rfl) ?_
  unfold f_X9_isZeroOrOne
  refine pv_iload_n dX9_isZeroOrOne_0 rfl ?_
  refine pv_if_eq (tgt := 9) dX9_isZeroOrOne_1 (by decide) ?_ ?_
  · refine pv_iconst (v := 1) dX9_isZeroOrOne_9 (by decide) ?_
    refine pv_goto (tgt := 14) dX9_isZeroOrOne_10 (by decide) ?_
    exact pv_iret dX9_isZeroOrOne_14 rfl rfl rfl
  · refine pv_iload_n dX9_isZeroOrOne_4 rfl ?_
    refine pv_iconst (v := 1) dX9_isZeroOrOne_5 (by decide) ?_
    refine pv_icmp_ne (tgt := 13) dX9_isZeroOrOne_6 (by decide) ?_ ?_
    · refine pv_iconst (v := 0) dX9_isZeroOrOne_13 (by decide) ?_
      exact pv_iret dX9_isZeroOrOne_14 rfl rfl rfl
    · refine pv_iconst (v := 1) dX9_isZeroOrOne_9 (by decide) ?_
      refine pv_goto (tgt := 14) dX9_isZeroOrOne_10 (by decide) ?_
      exact pv_iret dX9_isZeroOrOne_14 rfl rfl rfl
def f_X9_isOne (p0 : Int32) (p1 : Int32) : Option Int32 :=
  (f_X9_isZeroOrOne p0).bind (fun r1 => (if r1 = 0 then (some (0 : Int32)) else (if p1 < 0 then (some (0 : Int32)) else (if (4 : Int32) ≤ p1 then (some (0 : Int32)) else (some (1 : Int32))))))
abbrev rm_X9_isOne : Room := { frames := 1, cells := 0, slots := 0, locals := 20 }
set_option maxRecDepth 20000 in
set_option maxHeartbeats 2000000 in
theorem k_X9_isOne (l : Launch) (sh : pm_S) (p0 : Int32) (p1 : Int32) (μ : pm_M) : pm_Ok l yX9_isOne cX9_isOne 2 (some .boolean) rm_X9_isOne [.int p0, .int p1] sh false sh 0 0 (fun r => (some (.int r), μ)) μ (f_X9_isOne p0 p1) := by
  refine pm_enter (own := RX9) (by decide) rfl (fun h => by cases h) (ls := [some (.int p0), some (.int p1)]) rfl (fun _ => Nat.le_of_ble_eq_true rfl) ?_
  unfold f_X9_isOne
  refine pv_iload_n dX9_isOne_0 rfl ?_
  refine pv_cs_ri (rest := []) dX9_isOne_1 my_X9_isZeroOrOne sl_X9_120 (k_X9_isZeroOrOne l sh p0 μ) rfl ⟨rfl, rfl, Nat.le_of_ble_eq_true rfl, Nat.le_of_ble_eq_true rfl⟩ ⟨Nat.zero_le _, Nat.zero_le _⟩ (Nat.le_of_ble_eq_true rfl) rfl (fun r1 => ?_)
  refine pv_if_eq (tgt := 20) dX9_isOne_4 (by decide) ?_ ?_
  · refine pv_iconst (v := 0) dX9_isOne_20 (by decide) ?_
    exact pv_iret dX9_isOne_21 rfl rfl rfl
  · refine pv_iload_n dX9_isOne_7 rfl ?_
    refine pv_if_lt (tgt := 20) dX9_isOne_8 (by decide) ?_ ?_
    · refine pv_iconst (v := 0) dX9_isOne_20 (by decide) ?_
      exact pv_iret dX9_isOne_21 rfl rfl rfl
    · refine pv_iload_n dX9_isOne_11 rfl ?_
      refine pv_iconst (v := 4) dX9_isOne_12 (by decide) ?_
      refine pv_icmp_ge (tgt := 20) dX9_isOne_13 (by decide) ?_ ?_
      · refine pv_iconst (v := 0) dX9_isOne_20 (by decide) ?_
        exact pv_iret dX9_isOne_21 rfl rfl rfl
      · refine pv_iconst (v := 1) dX9_isOne_16 (by decide) ?_
        refine pv_goto (tgt := 21) dX9_isOne_17 (by decide) ?_
        exact pv_iret dX9_isOne_21 rfl rfl rfl
def f_J7_fill_53178_b5 (j : Nat) (n : Nat) (p1 : Int32) (x1 : Int32) (v5 : (Int32 × pm_M)) (T5 : ((Int32 × pm_M) → Option pm_M)) (E5 : (pm_M → Option pm_M)) : Option pm_M :=
  (if x1 ≤ v5.1 then (E5 v5.2) else pm_ck v5.1 n (pm_let (pm_up v5.2 j (Int32.toNatClampNeg v5.1) p1) (fun m2 => (T5 ((v5.1 + 1), m2)))))
def f_J7_fill_53178 (j : Nat) (n : Nat) (p1 : Int32) (μ : pm_M) : Option pm_M :=
  pm_let (Int32.ofNat n) (fun x1 => (pm_it (f_J7_fill_53178_b5 j n p1 x1) 5000 ((0 : Int32), μ) (fun e5 => (some e5))))
abbrev rm_J7_fill_53178 : Room := { frames := 0, cells := 0, slots := 0, locals := 0 }
set_option maxRecDepth 20000 in
set_option maxHeartbeats 2000000 in
theorem k_J7_fill_53178 (l : Launch) (sh : pm_S) (j : Nat) (n : Nat) (hj : sh[j]? = some (.inl (0, n))) (p1 : Int32) (μ : pm_M) : pm_Ok l yJ7_fill_53178 cJ7_fill_53178 4 none rm_J7_fill_53178 [.ref j, .int p1] sh false sh 0 0 (fun r => (none, r)) μ (f_J7_fill_53178 j n p1 μ) := by
  refine pm_enter (own := RJ7) (by decide) rfl (fun h => by cases h) (ls := [some (.ref j), some (.int p1), none, none]) rfl (fun _ => Nat.le_of_ble_eq_true rfl) ?_
  unfold f_J7_fill_53178
  refine pv_iconst (v := 0) dJ7_fill_53178_0 (by decide) ?_
  refine pv_istore_n (ls' := [some (.ref j), some (.int p1), some (.int (0 : Int32)), none]) dJ7_fill_53178_1 (Nat.le_of_ble_eq_true rfl) rfl ?_
  refine pv_aload_n dJ7_fill_53178_2 rfl ?_
  refine pv_alen (t := 0) dJ7_fill_53178_3 hj rfl ?_
  refine pv_let (fun x1 => ?_)
  refine pv_istore_n (ls' := [some (.ref j), some (.int p1), some (.int (0 : Int32)), some (.int x1)]) dJ7_fill_53178_4 (Nat.le_of_ble_eq_true rfl) rfl ?_
  refine pv_loop (body := (f_J7_fill_53178_b5 j n p1 x1)) (pcE := 20) (lsf := fun v5 => [some (.ref j), some (.int p1), some (.int v5.1), some (.int x1)]) (mf := fun v5 => v5.2) (lsE := fun e5 => [none, none, none, none]) (mE := fun e5 => e5) (fun e5 => ?_) (fun E5 hE5 T5 hT5 v5 => ?_) 5000 ((0 : Int32), μ)
  · exact pv_vret dJ7_fill_53178_20 rfl rfl
  · unfold f_J7_fill_53178_b5
    refine pv_iload_n dJ7_fill_53178_5 rfl ?_
    refine pv_iload_n dJ7_fill_53178_6 rfl ?_
    refine pv_icmp_ge (tgt := 20) dJ7_fill_53178_7 (by decide) ?_ ?_
    · refine pv_mask (ls' := [none, none, none, none]) [false, false, false, false] rfl ?_
      exact hE5 v5.2
    · refine pv_aload_n dJ7_fill_53178_10 rfl ?_
      refine pv_iload_n dJ7_fill_53178_11 rfl ?_
      refine pv_iload_n dJ7_fill_53178_12 rfl ?_
      refine pv_iast dJ7_fill_53178_13 hj ?_
      refine pv_letM (fun m2 => ?_)
      refine pv_iinc (v := (v5.1 + 1)) (ls' := [some (.ref j), some (.int p1), some (.int (v5.1 + 1)), some (.int x1)]) dJ7_fill_53178_14 rfl rfl (Nat.le_of_ble_eq_true rfl) rfl ?_
      refine pv_goto (tgt := 5) dJ7_fill_53178_17 (by decide) ?_
      exact hT5 ((v5.1 + 1), m2)
def f_X9_isFarm (p0 : Int32) : Option Int32 :=
  (if p0 < 0 then (some (0 : Int32)) else (if (7 : Int32) ≤ p0 then (some (0 : Int32)) else (some (1 : Int32))))
abbrev rm_X9_isFarm : Room := { frames := 0, cells := 0, slots := 0, locals := 0 }
set_option maxRecDepth 20000 in
set_option maxHeartbeats 2000000 in
theorem k_X9_isFarm (l : Launch) (sh : pm_S) (p0 : Int32) (μ : pm_M) : pm_Ok l yX9_isFarm cX9_isFarm 1 (some .boolean) rm_X9_isFarm [.int p0] sh false sh 0 0 (fun r => (some (.int r), μ)) μ (f_X9_isFarm p0) := by
  refine pm_enter (own := RX9) (by decide) rfl (fun h => by cases h) (ls := [some (.int p0)]) rfl (fun _ => Nat.le_of_ble_eq_true rfl) ?_
  unfold f_X9_isFarm
  refine pv_iload_n dX9_isFarm_0 rfl ?_
  refine pv_if_lt (tgt := 14) dX9_isFarm_1 (by decide) ?_ ?_
  · refine pv_iconst (v := 0) dX9_isFarm_14 (by decide) ?_
    exact pv_iret dX9_isFarm_15 rfl rfl rfl
  · refine pv_iload_n dX9_isFarm_4 rfl ?_
    refine pv_bipush (v := 7) dX9_isFarm_5 (by decide) ?_
    refine pv_icmp_ge (tgt := 14) dX9_isFarm_7 (by decide) ?_ ?_
    · refine pv_iconst (v := 0) dX9_isFarm_14 (by decide) ?_
      exact pv_iret dX9_isFarm_15 rfl rfl rfl
    · refine pv_iconst (v := 1) dX9_isFarm_10 (by decide) ?_
      refine pv_goto (tgt := 15) dX9_isFarm_11 (by decide) ?_
      exact pv_iret dX9_isFarm_15 rfl rfl rfl
def f_X9_areTwoFarms (p0 : Int32) (p1 : Int32) : Option Int32 :=
  (f_X9_isFarm p0).bind (fun r1 => (if r1 = 0 then (some (0 : Int32)) else (f_X9_isFarm p1).bind (fun r2 => (if r2 = 0 then (some (0 : Int32)) else (if p0 = p1 then (some (0 : Int32)) else (some (1 : Int32)))))))
abbrev rm_X9_areTwoFarms : Room := { frames := 1, cells := 0, slots := 0, locals := 20 }
set_option maxRecDepth 20000 in
set_option maxHeartbeats 2000000 in
theorem k_X9_areTwoFarms (l : Launch) (sh : pm_S) (p0 : Int32) (p1 : Int32) (μ : pm_M) : pm_Ok l yX9_areTwoFarms cX9_areTwoFarms 2 (some .boolean) rm_X9_areTwoFarms [.int p0, .int p1] sh false sh 0 0 (fun r => (some (.int r), μ)) μ (f_X9_areTwoFarms p0 p1) := by
  refine pm_enter (own := RX9) (by decide) rfl (fun h => by cases h) (ls := [some (.int p0), some (.int p1)]) rfl (fun _ => Nat.le_of_ble_eq_true rfl) ?_
  unfold f_X9_areTwoFarms
  refine pv_iload_n dX9_areTwoFarms_0 rfl ?_
  refine pv_cs_ri (rest := []) dX9_areTwoFarms_1 my_X9_isFarm sl_X9_79 (k_X9_isFarm l sh p0 μ) rfl ⟨rfl, rfl, Nat.le_of_ble_eq_true rfl, Nat.le_of_ble_eq_true rfl⟩ ⟨Nat.zero_le _, Nat.zero_le _⟩ (Nat.le_of_ble_eq_true rfl) rfl (fun r1 => ?_)
  refine pv_if_eq (tgt := 23) dX9_areTwoFarms_4 (by decide) ?_ ?_
  · refine pv_iconst (v := 0) dX9_areTwoFarms_23 (by decide) ?_
    exact pv_iret dX9_areTwoFarms_24 rfl rfl rfl
  · refine pv_iload_n dX9_areTwoFarms_7 rfl ?_
    refine pv_cs_ri (rest := []) dX9_areTwoFarms_8 my_X9_isFarm sl_X9_79 (k_X9_isFarm l sh p1 μ) rfl ⟨rfl, rfl, Nat.le_of_ble_eq_true rfl, Nat.le_of_ble_eq_true rfl⟩ ⟨Nat.zero_le _, Nat.zero_le _⟩ (Nat.le_of_ble_eq_true rfl) rfl (fun r2 => ?_)
    refine pv_if_eq (tgt := 23) dX9_areTwoFarms_11 (by decide) ?_ ?_
    · refine pv_iconst (v := 0) dX9_areTwoFarms_23 (by decide) ?_
      exact pv_iret dX9_areTwoFarms_24 rfl rfl rfl
    · refine pv_iload_n dX9_areTwoFarms_14 rfl ?_
      refine pv_iload_n dX9_areTwoFarms_15 rfl ?_
      refine pv_icmp_eq (tgt := 23) dX9_areTwoFarms_16 (by decide) ?_ ?_
      · refine pv_iconst (v := 0) dX9_areTwoFarms_23 (by decide) ?_
        exact pv_iret dX9_areTwoFarms_24 rfl rfl rfl
      · refine pv_iconst (v := 1) dX9_areTwoFarms_19 (by decide) ?_
        refine pv_goto (tgt := 24) dX9_areTwoFarms_20 (by decide) ?_
        exact pv_iret dX9_areTwoFarms_24 rfl rfl rfl
def f_J6_compare_7cf53 (p0 : Int32) (p1 : Int32) : Option Int32 :=
  (if p1 ≤ p0 then (if p0 = p1 then (some (0 : Int32)) else (some (1 : Int32))) else (some (-1 : Int32)))
abbrev rm_J6_compare_7cf53 : Room := { frames := 0, cells := 0, slots := 0, locals := 0 }
set_option maxRecDepth 20000 in
set_option maxHeartbeats 2000000 in
theorem k_J6_compare_7cf53 (l : Launch) (sh : pm_S) (p0 : Int32) (p1 : Int32) (μ : pm_M) : pm_Ok l yJ6_compare_7cf53 cJ6_compare_7cf53 2 (some .int) rm_J6_compare_7cf53 [.int p0, .int p1] sh false sh 0 0 (fun r => (some (.int r), μ)) μ (f_J6_compare_7cf53 p0 p1) := by
  refine pm_enter (own := RJ6) (by decide) rfl (fun h => by cases h) (ls := [some (.int p0), some (.int p1)]) rfl (fun _ => Nat.le_of_ble_eq_true rfl) ?_
  unfold f_J6_compare_7cf53
  refine pv_iload_n dJ6_compare_7cf53_0 rfl ?_
  refine pv_iload_n dJ6_compare_7cf53_1 rfl ?_
  refine pv_icmp_ge (tgt := 9) dJ6_compare_7cf53_2 (by decide) ?_ ?_
  · refine pv_iload_n dJ6_compare_7cf53_9 rfl ?_
    refine pv_iload_n dJ6_compare_7cf53_10 rfl ?_
    refine pv_icmp_ne (tgt := 18) dJ6_compare_7cf53_11 (by decide) ?_ ?_
    · refine pv_iconst (v := 1) dJ6_compare_7cf53_18 (by decide) ?_
      exact pv_iret dJ6_compare_7cf53_19 rfl rfl rfl
    · refine pv_iconst (v := 0) dJ6_compare_7cf53_14 (by decide) ?_
      refine pv_goto (tgt := 19) dJ6_compare_7cf53_15 (by decide) ?_
      exact pv_iret dJ6_compare_7cf53_19 rfl rfl rfl
  · refine pv_iconst (v := (-1)) dJ6_compare_7cf53_5 (by decide) ?_
    refine pv_goto (tgt := 19) dJ6_compare_7cf53_6 (by decide) ?_
    exact pv_iret dJ6_compare_7cf53_19 rfl rfl rfl
def f_J6_bitCount_0f7a4 (p0 : Int32) : Option Int32 :=
  pm_let ((Int32.toUInt32 p0 >>> (Int32.toUInt32 (1 : Int32) &&& Int32.toUInt32 31)).toInt32) (fun x1 => pm_let (p0 - (x1 &&& (1431655765 : Int32))) (fun x2 => pm_let ((Int32.toUInt32 x2 >>> (Int32.toUInt32 (2 : Int32) &&& Int32.toUInt32 31)).toInt32) (fun x3 => pm_let ((x2 &&& (858993459 : Int32)) + (x3 &&& (858993459 : Int32))) (fun x4 => pm_let ((Int32.toUInt32 x4 >>> (Int32.toUInt32 (4 : Int32) &&& Int32.toUInt32 31)).toInt32) (fun x5 => pm_let ((x4 + x5) &&& (252645135 : Int32)) (fun x6 => pm_let ((Int32.toUInt32 x6 >>> (Int32.toUInt32 (8 : Int32) &&& Int32.toUInt32 31)).toInt32) (fun x7 => pm_let (x6 + x7) (fun x8 => pm_let ((Int32.toUInt32 x8 >>> (Int32.toUInt32 (16 : Int32) &&& Int32.toUInt32 31)).toInt32) (fun x9 => pm_let (x8 + x9) (fun x10 => (some (x10 &&& (63 : Int32)))))))))))))
abbrev rm_J6_bitCount_0f7a4 : Room := { frames := 0, cells := 0, slots := 0, locals := 0 }
set_option maxRecDepth 20000 in
set_option maxHeartbeats 2000000 in
theorem k_J6_bitCount_0f7a4 (l : Launch) (sh : pm_S) (p0 : Int32) (μ : pm_M) : pm_Ok l yJ6_bitCount_0f7a4 cJ6_bitCount_0f7a4 1 (some .int) rm_J6_bitCount_0f7a4 [.int p0] sh false sh 0 0 (fun r => (some (.int r), μ)) μ (f_J6_bitCount_0f7a4 p0) := by
  refine pm_enter (own := RJ6) (by decide) rfl (fun h => by cases h) (ls := [some (.int p0)]) rfl (fun _ => Nat.le_of_ble_eq_true rfl) ?_
  unfold f_J6_bitCount_0f7a4
  refine pv_iload_n dJ6_bitCount_0f7a4_0 rfl ?_
  refine pv_iload_n dJ6_bitCount_0f7a4_1 rfl ?_
  refine pv_iconst (v := 1) dJ6_bitCount_0f7a4_2 (by decide) ?_
  refine pv_iushr dJ6_bitCount_0f7a4_3 ?_
  refine pv_let (fun x1 => ?_)
  refine pv_ldcw dJ6_bitCount_0f7a4_4 kc_J6_265 ?_
  refine pv_iand dJ6_bitCount_0f7a4_7 ?_
  refine pv_isub dJ6_bitCount_0f7a4_8 ?_
  refine pv_let (fun x2 => ?_)
  refine pv_istore_n (ls' := [some (.int x2)]) dJ6_bitCount_0f7a4_9 (Nat.le_of_ble_eq_true rfl) rfl ?_
  refine pv_iload_n dJ6_bitCount_0f7a4_10 rfl ?_
  refine pv_ldcw dJ6_bitCount_0f7a4_11 kc_J6_266 ?_
  refine pv_iand dJ6_bitCount_0f7a4_14 ?_
  refine pv_iload_n dJ6_bitCount_0f7a4_15 rfl ?_
  refine pv_iconst (v := 2) dJ6_bitCount_0f7a4_16 (by decide) ?_
  refine pv_iushr dJ6_bitCount_0f7a4_17 ?_
  refine pv_let (fun x3 => ?_)
  refine pv_ldcw dJ6_bitCount_0f7a4_18 kc_J6_266 ?_
  refine pv_iand dJ6_bitCount_0f7a4_21 ?_
  refine pv_iadd dJ6_bitCount_0f7a4_22 ?_
  refine pv_let (fun x4 => ?_)
  refine pv_istore_n (ls' := [some (.int x4)]) dJ6_bitCount_0f7a4_23 (Nat.le_of_ble_eq_true rfl) rfl ?_
  refine pv_iload_n dJ6_bitCount_0f7a4_24 rfl ?_
  refine pv_iload_n dJ6_bitCount_0f7a4_25 rfl ?_
  refine pv_iconst (v := 4) dJ6_bitCount_0f7a4_26 (by decide) ?_
  refine pv_iushr dJ6_bitCount_0f7a4_27 ?_
  refine pv_let (fun x5 => ?_)
  refine pv_iadd dJ6_bitCount_0f7a4_28 ?_
  refine pv_ldcw dJ6_bitCount_0f7a4_29 kc_J6_267 ?_
  refine pv_iand dJ6_bitCount_0f7a4_32 ?_
  refine pv_let (fun x6 => ?_)
  refine pv_istore_n (ls' := [some (.int x6)]) dJ6_bitCount_0f7a4_33 (Nat.le_of_ble_eq_true rfl) rfl ?_
  refine pv_iload_n dJ6_bitCount_0f7a4_34 rfl ?_
  refine pv_iload_n dJ6_bitCount_0f7a4_35 rfl ?_
  refine pv_bipush (v := 8) dJ6_bitCount_0f7a4_36 (by decide) ?_
  refine pv_iushr dJ6_bitCount_0f7a4_38 ?_
  refine pv_let (fun x7 => ?_)
  refine pv_iadd dJ6_bitCount_0f7a4_39 ?_
  refine pv_let (fun x8 => ?_)
  refine pv_istore_n (ls' := [some (.int x8)]) dJ6_bitCount_0f7a4_40 (Nat.le_of_ble_eq_true rfl) rfl ?_
  refine pv_iload_n dJ6_bitCount_0f7a4_41 rfl ?_
  refine pv_iload_n dJ6_bitCount_0f7a4_42 rfl ?_
  refine pv_bipush (v := 16) dJ6_bitCount_0f7a4_43 (by decide) ?_
  refine pv_iushr dJ6_bitCount_0f7a4_45 ?_
  refine pv_let (fun x9 => ?_)
  refine pv_iadd dJ6_bitCount_0f7a4_46 ?_
  refine pv_let (fun x10 => ?_)
  refine pv_istore_n (ls' := [some (.int x10)]) dJ6_bitCount_0f7a4_47 (Nat.le_of_ble_eq_true rfl) rfl ?_
  refine pv_iload_n dJ6_bitCount_0f7a4_48 rfl ?_
  refine pv_bipush (v := 63) dJ6_bitCount_0f7a4_49 (by decide) ?_
  refine pv_iand dJ6_bitCount_0f7a4_51 ?_
  exact pv_iret dJ6_bitCount_0f7a4_52 rfl rfl rfl
