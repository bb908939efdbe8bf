def f_X10_in (p0 : Int32) (p1 : Int32) (p2 : Int32) : Option Int32 :=
  (if p0 < p1 then (some (0 : Int32)) else (if p2 < p0 then (some (0 : Int32)) else (some (1 : Int32))))
abbrev rm_X10_in : Room := { frames := 0, cells := 0, slots := 0, locals := 0 }
set_option maxRecDepth 20000 in
set_option maxHeartbeats 2000000 in
theorem k_X10_in (l : Launch) (sh : pm_S) (p0 : Int32) (p1 : Int32) (p2 : Int32) (μ : pm_M) : pm_Ok l yX10_in cX10_in 3 (some .boolean) rm_X10_in [.int p0, .int p1, .int p2] sh false sh 0 0 (fun r => (some (.int r), μ)) μ (f_X10_in p0 p1 p2) := by
  refine pm_enter (own := RX10) (by decide) rfl (fun h => by cases h) (ls := [some (.int p0), some (.int p1), some (.int p2)]) rfl (fun _ => Nat.le_of_ble_eq_true rfl) ?_
  unfold f_X10_in
  refine pv_iload_n dX10_in_0 rfl ?_
  refine pv_iload_n dX10_in_1 rfl ?_
  refine pv_icmp_lt (tgt := 14) dX10_in_2 (by decide) ?_ ?_
  · refine pv_iconst (v := 0) dX10_in_14 (by decide) ?_
    exact pv_iret dX10_in_15 rfl rfl rfl
  · refine pv_iload_n dX10_in_5 rfl ?_
    refine pv_iload_n dX10_in_6 rfl ?_
    refine pv_icmp_gt (tgt := 14) dX10_in_7 (by decide) ?_ ?_
    · refine pv_iconst (v := 0) dX10_in_14 (by decide) ?_
      exact pv_iret dX10_in_15 rfl rfl rfl
    · refine pv_iconst (v := 1) dX10_in_10 (by decide) ?_
      refine pv_goto (tgt := 15) dX10_in_11 (by decide) ?_
      exact pv_iret dX10_in_15 rfl rfl rfl
def f_X10_has (p0 : Int32) (p1 : Int32) : Option Int32 :=
  (if ((p0 >>> (p1 &&& 31)) &&& (1 : Int32)) = (1 : Int32) then (some (1 : Int32)) else (some (0 : Int32)))
abbrev rm_X10_has : Room := { frames := 0, cells := 0, slots := 0, locals := 0 }
set_option maxRecDepth 20000 in
set_option maxHeartbeats 2000000 in
theorem k_X10_has (l : Launch) (sh : pm_S) (p0 : Int32) (p1 : Int32) (μ : pm_M) : pm_Ok l yX10_has cX10_has 2 (some .boolean) rm_X10_has [.int p0, .int p1] sh false sh 0 0 (fun r => (some (.int r), μ)) μ (f_X10_has p0 p1) := by
  refine pm_enter (own := RX10) (by decide) rfl (fun h => by cases h) (ls := [some (.int p0), some (.int p1)]) rfl (fun _ => Nat.le_of_ble_eq_true rfl) ?_
  unfold f_X10_has
  refine pv_iload_n dX10_has_0 rfl ?_
  refine pv_iload_n dX10_has_1 rfl ?_
  refine pv_ishr dX10_has_2 ?_
  refine pv_iconst (v := 1) dX10_has_3 (by decide) ?_
  refine pv_iand dX10_has_4 ?_
  refine pv_iconst (v := 1) dX10_has_5 (by decide) ?_
  refine pv_icmp_ne (tgt := 13) dX10_has_6 (by decide) ?_ ?_
  · refine pv_iconst (v := 0) dX10_has_13 (by decide) ?_
    exact pv_iret dX10_has_14 rfl rfl rfl
  · refine pv_iconst (v := 1) dX10_has_9 (by decide) ?_
    refine pv_goto (tgt := 14) dX10_has_10 (by decide) ?_
    exact pv_iret dX10_has_14 rfl rfl rfl
def f_X10_isFarm (p0 : Int32) : Option Int32 :=
  (f_X10_in p0 (0 : Int32) (6 : Int32)).bind (fun r1 => (if r1 = 0 ∨ r1 = 1 then some r1 else none))
abbrev rm_X10_isFarm : Room := { frames := 1, cells := 0, slots := 0, locals := 22 }
set_option maxRecDepth 20000 in
set_option maxHeartbeats 2000000 in
theorem k_X10_isFarm (l : Launch) (sh : pm_S) (p0 : Int32) (μ : pm_M) : pm_Ok l yX10_isFarm cX10_isFarm 1 (some .boolean) rm_X10_isFarm [.int p0] sh false sh 0 0 (fun r => (some (.int r), μ)) μ (f_X10_isFarm p0) := by
  refine pm_enter (own := RX10) (by decide) rfl (fun h => by cases h) (ls := [some (.int p0)]) rfl (fun _ => Nat.le_of_ble_eq_true rfl) ?_
  unfold f_X10_isFarm
  refine pv_iload_n dX10_isFarm_0 rfl ?_
  refine pv_iconst (v := 0) dX10_isFarm_1 (by decide) ?_
  refine pv_bipush (v := 6) dX10_isFarm_2 (by decide) ?_
  refine pv_cs_ri (rest := []) dX10_isFarm_4 my_X10_in sl_X10_62 (k_X10_in l sh p0 (0 : Int32) (6 : Int32) μ) rfl ⟨rfl, rfl, Nat.le_of_ble_eq_true rfl, Nat.le_of_ble_eq_true rfl⟩ ⟨Nat.zero_le _, Nat.zero_le _⟩ (Nat.le_of_ble_eq_true rfl) rfl (fun r1 => ?_)
  exact pv_zret (ty := .boolean) dX10_isFarm_7 rfl rfl
def f_X10_asNow_b2  (v2 : (Int32 × pm_M)) (T2 : ((Int32 × pm_M) → Option pm_M)) (E2 : (pm_M → Option pm_M)) : Option pm_M :=
  (if (64 : Int32) ≤ v2.1 then (E2 v2.2) else pm_ck v2.1 64 (pm_ck v2.1 64 (pm_let (pm_up v2.2 52 (Int32.toNatClampNeg v2.1) (v2.2 51 (Int32.toNatClampNeg v2.1))) (fun m1 => (T2 ((v2.1 + 1), m1))))))
def f_X10_asNow (μ : pm_M) : Option pm_M :=
  (pm_it f_X10_asNow_b2 5000 ((0 : Int32), μ) (fun e2 => pm_let (pm_up e2 50 8 (0 : Int32)) (fun m2 => pm_let (pm_up m2 50 9 (-6 : Int32)) (fun m3 => pm_let (pm_up m3 50 10 (-6 : Int32)) (fun m4 => (some m4))))))
abbrev rm_X10_asNow : Room := { frames := 0, cells := 0, slots := 0, locals := 0 }
set_option maxRecDepth 20000 in
set_option maxHeartbeats 2000000 in
theorem k_X10_asNow (l : Launch) (μ : pm_M) : pm_Ok l yX10_asNow cX10_asNow 2 none rm_X10_asNow [.ref 50] SH false SH 0 0 (fun r => (none, r)) μ (f_X10_asNow μ) := by
  refine pm_enter (own := RX10) (by decide) rfl (fun h => by cases h) (ls := [some (.ref 50), none]) rfl (fun _ => Nat.le_of_ble_eq_true rfl) ?_
  unfold f_X10_asNow
  refine pv_iconst (v := 0) dX10_asNow_0 (by decide) ?_
  refine pv_istore_n (ls' := [some (.ref 50), some (.int (0 : Int32))]) dX10_asNow_1 (Nat.le_of_ble_eq_true rfl) rfl ?_
  refine pv_loop (body := f_X10_asNow_b2) (pcE := 26) (lsf := fun v2 => [some (.ref 50), some (.int v2.1)]) (mf := fun v2 => v2.2) (lsE := fun e2 => [some (.ref 50), none]) (mE := fun e2 => e2) (fun e2 => ?_) (fun E2 hE2 T2 hT2 v2 => ?_) 5000 ((0 : Int32), μ)
  · refine pv_aload_n dX10_asNow_26 rfl ?_
    refine pv_iconst (v := 0) dX10_asNow_27 (by decide) ?_
    refine pv_puti dX10_asNow_28 fp_X10_92 sh_50 rfl rfl rfl ?_
    refine pv_letM (fun m2 => ?_)
    refine pv_aload_n dX10_asNow_31 rfl ?_
    refine pv_bipush (v := (-6)) dX10_asNow_32 (by decide) ?_
    refine pv_puti dX10_asNow_34 fp_X10_95 sh_50 rfl rfl rfl ?_
    refine pv_letM (fun m3 => ?_)
    refine pv_aload_n dX10_asNow_37 rfl ?_
    refine pv_bipush (v := (-6)) dX10_asNow_38 (by decide) ?_
    refine pv_puti dX10_asNow_40 fp_X10_98 sh_50 rfl rfl rfl ?_
    refine pv_letM (fun m4 => ?_)
    exact pv_vret dX10_asNow_43 rfl rfl
  · unfold f_X10_asNow_b2
    refine pv_iload_n dX10_asNow_2 rfl ?_
    refine pv_bipush (v := 64) dX10_asNow_3 (by decide) ?_
    refine pv_icmp_ge (tgt := 26) dX10_asNow_5 (by decide) ?_ ?_
    · refine pv_mask (ls' := [some (.ref 50), none]) [true, false] rfl ?_
      exact hE2 v2.2
    · refine pv_aload_n dX10_asNow_8 rfl ?_
      refine pv_getr dX10_asNow_9 fl_X10_13 sh_50 rfl ?_
      refine pv_iload_n dX10_asNow_12 rfl ?_
      refine pv_aload_n dX10_asNow_13 rfl ?_
      refine pv_getr dX10_asNow_14 fl_X10_7 sh_50 rfl ?_
      refine pv_iload_n dX10_asNow_17 rfl ?_
      refine pv_iald dX10_asNow_18 sh_51 ?_
      refine pv_iast dX10_asNow_19 sh_52 ?_
      refine pv_letM (fun m1 => ?_)
      refine pv_iinc (v := (v2.1 + 1)) (ls' := [some (.ref 50), some (.int (v2.1 + 1))]) dX10_asNow_20 rfl rfl (Nat.le_of_ble_eq_true rfl) rfl ?_
      refine pv_goto (tgt := 2) dX10_asNow_23 (by decide) ?_
      exact hT2 ((v2.1 + 1), m1)
def f_X10_palesOf_b4 (p1 : Int32) (μ : pm_M) (v4 : (Int32 × Int32)) (T4 : ((Int32 × Int32) → Option Int32)) (E4 : (Int32 → Option Int32)) : Option Int32 :=
  (if (49 : Int32) ≤ v4.2 then (E4 v4.1) else pm_ck v4.2 64 ((f_X10_in (μ 52 (Int32.toNatClampNeg v4.2)) (0 : Int32) p1).bind (fun r1 => (pm_jn (fun (a2 : Int32) => pm_let (v4.1 + a2) (fun x3 => (T4 (x3, (v4.2 + 1))))) (fun j30 => (if r1 = 0 then (j30 (0 : Int32)) else (j30 (1 : Int32))))))))
def f_X10_palesOf (p1 : Int32) (μ : pm_M) : Option Int32 :=
  (pm_it (f_X10_palesOf_b4 p1 μ) 5000 ((0 : Int32), (0 : Int32)) (fun e4 => (some (e4 / (2 : Int32)))))
abbrev rm_X10_palesOf : Room := { frames := 1, cells := 0, slots := 0, locals := 22 }
set_option maxRecDepth 20000 in
set_option maxHeartbeats 2000000 in
theorem k_X10_palesOf (l : Launch) (p1 : Int32) (μ : pm_M) : pm_Ok l yX10_palesOf cX10_palesOf 4 (some .int) rm_X10_palesOf [.ref 50, .int p1] SH false SH 0 0 (fun r => (some (.int r), μ)) μ (f_X10_palesOf p1 μ) := by
  refine pm_enter (own := RX10) (by decide) rfl (fun h => by cases h) (ls := [some (.ref 50), some (.int p1), none, none]) rfl (fun _ => Nat.le_of_ble_eq_true rfl) ?_
  unfold f_X10_palesOf
  refine pv_iconst (v := 0) dX10_palesOf_0 (by decide) ?_
  refine pv_istore_n (ls' := [some (.ref 50), some (.int p1), some (.int (0 : Int32)), none]) dX10_palesOf_1 (Nat.le_of_ble_eq_true rfl) rfl ?_
  refine pv_iconst (v := 0) dX10_palesOf_2 (by decide) ?_
  refine pv_istore_n (ls' := [some (.ref 50), some (.int p1), some (.int (0 : Int32)), some (.int (0 : Int32))]) dX10_palesOf_3 (Nat.le_of_ble_eq_true rfl) rfl ?_
  refine pv_loop (body := (f_X10_palesOf_b4 p1 μ)) (pcE := 38) (lsf := fun v4 => [some (.ref 50), some (.int p1), some (.int v4.1), some (.int v4.2)]) (mf := fun v4 => μ) (lsE := fun e4 => [none, none, some (.int e4), none]) (mE := fun e4 => μ) (fun e4 => ?_) (fun E4 hE4 T4 hT4 v4 => ?_) 5000 ((0 : Int32), (0 : Int32))
  · refine pv_iload_n dX10_palesOf_38 rfl ?_
    refine pv_iconst (v := 2) dX10_palesOf_39 (by decide) ?_
    refine pv_idiv dX10_palesOf_40 (by decide) ?_
    exact pv_iret dX10_palesOf_41 rfl rfl rfl
  · unfold f_X10_palesOf_b4
    refine pv_iload_n dX10_palesOf_4 rfl ?_
    refine pv_bipush (v := 49) dX10_palesOf_5 (by decide) ?_
    refine pv_icmp_ge (tgt := 38) dX10_palesOf_7 (by decide) ?_ ?_
    · refine pv_mask (ls' := [none, none, some (.int v4.1), none]) [false, false, true, false] rfl ?_
      exact hE4 v4.1
    · refine pv_iload_n dX10_palesOf_10 rfl ?_
      refine pv_aload_n dX10_palesOf_11 rfl ?_
      refine pv_getr dX10_palesOf_12 fl_X10_13 sh_50 rfl ?_
      refine pv_iload_n dX10_palesOf_15 rfl ?_
      refine pv_iald dX10_palesOf_16 sh_52 ?_
      refine pv_iconst (v := 0) dX10_palesOf_17 (by decide) ?_
      refine pv_iload_n dX10_palesOf_18 rfl ?_
      refine pv_cs_ri (rest := [.int v4.1]) dX10_palesOf_19 my_X10_in sl_X10_62 (k_X10_in l SH (μ 52 (Int32.toNatClampNeg v4.2)) (0 : Int32) p1 μ) rfl ⟨rfl, rfl, Nat.le_of_ble_eq_true rfl, Nat.le_of_ble_eq_true rfl⟩ ⟨Nat.zero_le _, Nat.zero_le _⟩ (Nat.le_of_ble_eq_true rfl) rfl (fun r1 => ?_)
      refine pv_jn (pcJ := 30) (lsJ := fun a2 => [some (.ref 50), some (.int p1), none, some (.int v4.2)]) (stJ := fun a2 => [.int a2, .int v4.1]) (mJ := fun a2 => μ) (fun a2 => ?_) (fun j30 hj30 => ?_)
      · refine pv_iadd dX10_palesOf_30 ?_
        refine pv_let (fun x3 => ?_)
        refine pv_istore_n (ls' := [some (.ref 50), some (.int p1), some (.int x3), some (.int v4.2)]) dX10_palesOf_31 (Nat.le_of_ble_eq_true rfl) rfl ?_
        refine pv_iinc (v := (v4.2 + 1)) (ls' := [some (.ref 50), some (.int p1), some (.int x3), some (.int (v4.2 + 1))]) dX10_palesOf_32 rfl rfl (Nat.le_of_ble_eq_true rfl) rfl ?_
        refine pv_goto (tgt := 4) dX10_palesOf_35 (by decide) ?_
        exact hT4 (x3, (v4.2 + 1))
      · refine pv_if_eq (tgt := 29) dX10_palesOf_22 (by decide) ?_ ?_
        · refine pv_iconst (v := 0) dX10_palesOf_29 (by decide) ?_
          refine pv_mask (ls' := [some (.ref 50), some (.int p1), none, some (.int v4.2)]) [true, true, false, true] rfl ?_
          exact hj30 (0 : Int32)
        · refine pv_iconst (v := 1) dX10_palesOf_25 (by decide) ?_
          refine pv_goto (tgt := 30) dX10_palesOf_26 (by decide) ?_
          refine pv_mask (ls' := [some (.ref 50), some (.int p1), none, some (.int v4.2)]) [true, true, false, true] rfl ?_
          exact hj30 (1 : Int32)
def f_X10_pale (p1 : Int32) (p2 : Int32) (p3 : Int32) (μ : pm_M) : Option (Int32 × pm_M) :=
  (f_X10_isFarm p1).bind (fun r1 => (if r1 = 0 then (some ((-1 : Int32), μ)) else (f_X10_isFarm p2).bind (fun r2 => (if r2 = 0 then (some ((-1 : Int32), μ)) else (if p1 = p2 then (some ((-1 : Int32), μ)) else (f_X10_in p3 (-1 : Int32) (9 : Int32)).bind (fun r3 => (if r3 = 0 then (some ((-2 : Int32), μ)) else (pm_jn (fun (a4 : Int32) => pm_ck (((7 : Int32) * p1) + p2) 64 (pm_let (pm_up μ 51 (Int32.toNatClampNeg (((7 : Int32) * p1) + p2)) a4) (fun m5 => (pm_jn (fun (a6 : Int32) => pm_ck (((7 : Int32) * p2) + p1) 64 (pm_let (pm_up m5 51 (Int32.toNatClampNeg (((7 : Int32) * p2) + p1)) a6) (fun m7 => (f_X10_asNow m7).bind (fun m8 => (f_X10_palesOf (9 : Int32) m8).bind (fun r9 => (some (r9, m8))))))) (fun j75 => (if 0 ≤ p3 then (j75 p3) else (j75 (-6 : Int32)))))))) (fun j54 => (if 0 ≤ p3 then (j54 p3) else (j54 (-6 : Int32))))))))))))
abbrev rm_X10_pale : Room := { frames := 2, cells := 0, slots := 0, locals := 45 }
set_option maxRecDepth 20000 in
set_option maxHeartbeats 2000000 in
theorem k_X10_pale (l : Launch) (p1 : Int32) (p2 : Int32) (p3 : Int32) (μ : pm_M) : pm_Ok l yX10_pale cX10_pale 4 (some .int) rm_X10_pale [.ref 50, .int p1, .int p2, .int p3] SH false SH 0 0 (fun r => (some (.int r.1), r.2)) μ (f_X10_pale p1 p2 p3 μ) := by
  refine pm_enter (own := RX10) (by decide) rfl (fun h => by cases h) (ls := [some (.ref 50), some (.int p1), some (.int p2), some (.int p3)]) rfl (fun _ => Nat.le_of_ble_eq_true rfl) ?_
  unfold f_X10_pale
  refine pv_iload_n dX10_pale_0 rfl ?_
  refine pv_cs_ri (rest := []) dX10_pale_1 my_X10_isFarm sl_X10_66 (k_X10_isFarm l SH p1 μ) rfl ⟨rfl, rfl, Nat.le_of_ble_eq_true rfl, Nat.le_of_ble_eq_true rfl⟩ ⟨Nat.zero_le _, Nat.zero_le _⟩ (Nat.le_of_ble_eq_true rfl) rfl (fun r1 => ?_)
  refine pv_if_eq (tgt := 19) dX10_pale_4 (by decide) ?_ ?_
  · refine pv_iconst (v := (-1)) dX10_pale_19 (by decide) ?_
    exact pv_iret dX10_pale_20 rfl rfl rfl
  · refine pv_iload_n dX10_pale_7 rfl ?_
    refine pv_cs_ri (rest := []) dX10_pale_8 my_X10_isFarm sl_X10_66 (k_X10_isFarm l SH p2 μ) rfl ⟨rfl, rfl, Nat.le_of_ble_eq_true rfl, Nat.le_of_ble_eq_true rfl⟩ ⟨Nat.zero_le _, Nat.zero_le _⟩ (Nat.le_of_ble_eq_true rfl) rfl (fun r2 => ?_)
    refine pv_if_eq (tgt := 19) dX10_pale_11 (by decide) ?_ ?_
    · refine pv_iconst (v := (-1)) dX10_pale_19 (by decide) ?_
      exact pv_iret dX10_pale_20 rfl rfl rfl
    · refine pv_iload_n dX10_pale_14 rfl ?_
      refine pv_iload_n dX10_pale_15 rfl ?_
      refine pv_icmp_ne (tgt := 21) dX10_pale_16 (by decide) ?_ ?_
      · refine pv_iload_n dX10_pale_21 rfl ?_
        refine pv_iconst (v := (-1)) dX10_pale_22 (by decide) ?_
        refine pv_bipush (v := 9) dX10_pale_23 (by decide) ?_
        refine pv_cs_ri (rest := []) dX10_pale_25 my_X10_in sl_X10_62 (k_X10_in l SH p3 (-1 : Int32) (9 : Int32) μ) rfl ⟨rfl, rfl, Nat.le_of_ble_eq_true rfl, Nat.le_of_ble_eq_true rfl⟩ ⟨Nat.zero_le _, Nat.zero_le _⟩ (Nat.le_of_ble_eq_true rfl) rfl (fun r3 => ?_)
        refine pv_if_ne (tgt := 34) dX10_pale_28 (by decide) ?_ ?_
        · refine pv_aload_n dX10_pale_34 rfl ?_
          refine pv_getr dX10_pale_35 fl_X10_7 sh_50 rfl ?_
          refine pv_bipush (v := 7) dX10_pale_38 (by decide) ?_
          refine pv_iload_n dX10_pale_40 rfl ?_
          refine pv_imul dX10_pale_41 ?_
          refine pv_iload_n dX10_pale_42 rfl ?_
          refine pv_iadd dX10_pale_43 ?_
          refine pv_iload_n dX10_pale_44 rfl ?_
          refine pv_jn (pcJ := 54) (lsJ := fun a4 => [some (.ref 50), some (.int p1), some (.int p2), some (.int p3)]) (stJ := fun a4 => [.int a4, .int (((7 : Int32) * p1) + p2), .ref 51]) (mJ := fun a4 => μ) (fun a4 => ?_) (fun j54 hj54 => ?_)
          · refine pv_iast dX10_pale_54 sh_51 ?_
            refine pv_letM (fun m5 => ?_)
            refine pv_aload_n dX10_pale_55 rfl ?_
            refine pv_getr dX10_pale_56 fl_X10_7 sh_50 rfl ?_
            refine pv_bipush (v := 7) dX10_pale_59 (by decide) ?_
            refine pv_iload_n dX10_pale_61 rfl ?_
            refine pv_imul dX10_pale_62 ?_
            refine pv_iload_n dX10_pale_63 rfl ?_
            refine pv_iadd dX10_pale_64 ?_
            refine pv_iload_n dX10_pale_65 rfl ?_
            refine pv_jn (pcJ := 75) (lsJ := fun a6 => [some (.ref 50), none, none, none]) (stJ := fun a6 => [.int a6, .int (((7 : Int32) * p2) + p1), .ref 51]) (mJ := fun a6 => m5) (fun a6 => ?_) (fun j75 hj75 => ?_)
            · refine pv_iast dX10_pale_75 sh_51 ?_
              refine pv_letM (fun m7 => ?_)
              refine pv_aload_n dX10_pale_76 rfl ?_
              refine pv_cv_wv (rest := []) dX10_pale_77 my_X10_asNow vl_X10_70 (k_X10_asNow l m7) sh_50 rfl rfl ⟨rfl, rfl, Nat.le_of_ble_eq_true rfl, Nat.le_of_ble_eq_true rfl⟩ ⟨Nat.zero_le _, Nat.zero_le _⟩ (Nat.le_of_ble_eq_true rfl) rfl (fun m8 => ?_)
              refine pv_aload_n dX10_pale_80 rfl ?_
              refine pv_bipush (v := 9) dX10_pale_81 (by decide) ?_
              refine pv_cv_ri (rest := []) dX10_pale_83 my_X10_palesOf vl_X10_73 (k_X10_palesOf l (9 : Int32) m8) sh_50 rfl rfl ⟨rfl, rfl, Nat.le_of_ble_eq_true rfl, Nat.le_of_ble_eq_true rfl⟩ ⟨Nat.zero_le _, Nat.zero_le _⟩ (Nat.le_of_ble_eq_true rfl) rfl (fun r9 => ?_)
              exact pv_iret dX10_pale_86 rfl rfl rfl
            · refine pv_if_ge (tgt := 74) dX10_pale_66 (by decide) ?_ ?_
              · refine pv_iload_n dX10_pale_74 rfl ?_
                refine pv_mask (ls' := [some (.ref 50), none, none, none]) [true, false, false, false] rfl ?_
                exact hj75 p3
              · refine pv_bipush (v := (-6)) dX10_pale_69 (by decide) ?_
                refine pv_goto (tgt := 75) dX10_pale_71 (by decide) ?_
                refine pv_mask (ls' := [some (.ref 50), none, none, none]) [true, false, false, false] rfl ?_
                exact hj75 (-6 : Int32)
          · refine pv_if_ge (tgt := 53) dX10_pale_45 (by decide) ?_ ?_
            · refine pv_iload_n dX10_pale_53 rfl ?_
              exact hj54 p3
            · refine pv_bipush (v := (-6)) dX10_pale_48 (by decide) ?_
              refine pv_goto (tgt := 54) dX10_pale_50 (by decide) ?_
              exact hj54 (-6 : Int32)
        · refine pv_bipush (v := (-2)) dX10_pale_31 (by decide) ?_
          exact pv_iret dX10_pale_33 rfl rfl rfl
      · refine pv_iconst (v := (-1)) dX10_pale_19 (by decide) ?_
        exact pv_iret dX10_pale_20 rfl rfl rfl
def f_X10_road (p1 : Int32) (p2 : Int32) (p3 : Int32) (μ : pm_M) : Option (Int32 × pm_M) :=
  (f_X10_isFarm p1).bind (fun r1 => (if r1 = 0 then (some ((-1 : Int32), μ)) else (f_X10_isFarm p2).bind (fun r2 => (if r2 = 0 then (some ((-1 : Int32), μ)) else (if p1 = p2 then (some ((-1 : Int32), μ)) else (f_X10_in p3 (0 : Int32) (9 : Int32)).bind (fun r3 => (if r3 = 0 then (some ((-2 : Int32), μ)) else pm_ck (((7 : Int32) * p1) + p2) 49 (pm_let (μ 53 (Int32.toNatClampNeg (((7 : Int32) * p1) + p2))) (fun x4 => pm_ck (((7 : Int32) * p1) + p2) 49 (pm_let (pm_up μ 53 (Int32.toNatClampNeg (((7 : Int32) * p1) + p2)) p3) (fun m5 => pm_ck (((7 : Int32) * p2) + p1) 49 (pm_let (pm_up m5 53 (Int32.toNatClampNeg (((7 : Int32) * p2) + p1)) p3) (fun m6 => (some (x4, m6)))))))))))))))
abbrev rm_X10_road : Room := { frames := 2, cells := 0, slots := 0, locals := 42 }
set_option maxRecDepth 20000 in
set_option maxHeartbeats 2000000 in
theorem k_X10_road (l : Launch) (p1 : Int32) (p2 : Int32) (p3 : Int32) (μ : pm_M) : pm_Ok l yX10_road cX10_road 5 (some .int) rm_X10_road [.ref 50, .int p1, .int p2, .int p3] SH false SH 0 0 (fun r => (some (.int r.1), r.2)) μ (f_X10_road p1 p2 p3 μ) := by
  refine pm_enter (own := RX10) (by decide) rfl (fun h => by cases h) (ls := [some (.ref 50), some (.int p1), some (.int p2), some (.int p3), none]) rfl (fun _ => Nat.le_of_ble_eq_true rfl) ?_
  unfold f_X10_road
  refine pv_iload_n dX10_road_0 rfl ?_
  refine pv_cs_ri (rest := []) dX10_road_1 my_X10_isFarm sl_X10_66 (k_X10_isFarm l SH p1 μ) rfl ⟨rfl, rfl, Nat.le_of_ble_eq_true rfl, Nat.le_of_ble_eq_true rfl⟩ ⟨Nat.zero_le _, Nat.zero_le _⟩ (Nat.le_of_ble_eq_true rfl) rfl (fun r1 => ?_)
  refine pv_if_eq (tgt := 19) dX10_road_4 (by decide) ?_ ?_
  · refine pv_iconst (v := (-1)) dX10_road_19 (by decide) ?_
    exact pv_iret dX10_road_20 rfl rfl rfl
  · refine pv_iload_n dX10_road_7 rfl ?_
    refine pv_cs_ri (rest := []) dX10_road_8 my_X10_isFarm sl_X10_66 (k_X10_isFarm l SH p2 μ) rfl ⟨rfl, rfl, Nat.le_of_ble_eq_true rfl, Nat.le_of_ble_eq_true rfl⟩ ⟨Nat.zero_le _, Nat.zero_le _⟩ (Nat.le_of_ble_eq_true rfl) rfl (fun r2 => ?_)
    refine pv_if_eq (tgt := 19) dX10_road_11 (by decide) ?_ ?_
    · refine pv_iconst (v := (-1)) dX10_road_19 (by decide) ?_
      exact pv_iret dX10_road_20 rfl rfl rfl
    · refine pv_iload_n dX10_road_14 rfl ?_
      refine pv_iload_n dX10_road_15 rfl ?_
      refine pv_icmp_ne (tgt := 21) dX10_road_16 (by decide) ?_ ?_
      · refine pv_iload_n dX10_road_21 rfl ?_
        refine pv_iconst (v := 0) dX10_road_22 (by decide) ?_
        refine pv_bipush (v := 9) dX10_road_23 (by decide) ?_
        refine pv_cs_ri (rest := []) dX10_road_25 my_X10_in sl_X10_62 (k_X10_in l SH p3 (0 : Int32) (9 : Int32) μ) rfl ⟨rfl, rfl, Nat.le_of_ble_eq_true rfl, Nat.le_of_ble_eq_true rfl⟩ ⟨Nat.zero_le _, Nat.zero_le _⟩ (Nat.le_of_ble_eq_true rfl) rfl (fun r3 => ?_)
        refine pv_if_ne (tgt := 34) dX10_road_28 (by decide) ?_ ?_
        · refine pv_aload_n dX10_road_34 rfl ?_
          refine pv_getr dX10_road_35 fl_X10_16 sh_50 rfl ?_
          refine pv_bipush (v := 7) dX10_road_38 (by decide) ?_
          refine pv_iload_n dX10_road_40 rfl ?_
          refine pv_imul dX10_road_41 ?_
          refine pv_iload_n dX10_road_42 rfl ?_
          refine pv_iadd dX10_road_43 ?_
          refine pv_iald dX10_road_44 sh_53 ?_
          refine pv_let (fun x4 => ?_)
          refine pv_istore (ls' := [some (.ref 50), some (.int p1), some (.int p2), some (.int p3), some (.int x4)]) dX10_road_45 (Nat.le_of_ble_eq_true rfl) rfl ?_
          refine pv_aload_n dX10_road_47 rfl ?_
          refine pv_getr dX10_road_48 fl_X10_16 sh_50 rfl ?_
          refine pv_bipush (v := 7) dX10_road_51 (by decide) ?_
          refine pv_iload_n dX10_road_53 rfl ?_
          refine pv_imul dX10_road_54 ?_
          refine pv_iload_n dX10_road_55 rfl ?_
          refine pv_iadd dX10_road_56 ?_
          refine pv_iload_n dX10_road_57 rfl ?_
          refine pv_iast dX10_road_58 sh_53 ?_
          refine pv_letM (fun m5 => ?_)
          refine pv_aload_n dX10_road_59 rfl ?_
          refine pv_getr dX10_road_60 fl_X10_16 sh_50 rfl ?_
          refine pv_bipush (v := 7) dX10_road_63 (by decide) ?_
          refine pv_iload_n dX10_road_65 rfl ?_
          refine pv_imul dX10_road_66 ?_
          refine pv_iload_n dX10_road_67 rfl ?_
          refine pv_iadd dX10_road_68 ?_
          refine pv_iload_n dX10_road_69 rfl ?_
          refine pv_iast dX10_road_70 sh_53 ?_
          refine pv_letM (fun m6 => ?_)
          refine pv_iload dX10_road_71 rfl ?_
          exact pv_iret dX10_road_73 rfl rfl rfl
        · refine pv_bipush (v := (-2)) dX10_road_31 (by decide) ?_
          exact pv_iret dX10_road_33 rfl rfl rfl
      · refine pv_iconst (v := (-1)) dX10_road_19 (by decide) ?_
        exact pv_iret dX10_road_20 rfl rfl rfl
def f_X10_farm (p1 : Int32) (p2 : Int32) (p3 : Int32) (μ : pm_M) : Option (Int32 × pm_M) :=
  (f_X10_isFarm p1).bind (fun r1 => (if r1 = 0 then (some ((-1 : Int32), μ)) else (f_X10_isFarm p3).bind (fun r2 => (if r2 = 0 then (some ((-1 : Int32), μ)) else (f_X10_in p2 (0 : Int32) (99 : Int32)).bind (fun r3 => (if r3 = 0 then (some ((-2 : Int32), μ)) else pm_ck ((49 : Int32) + p1) 64 (pm_let (μ 51 (Int32.toNatClampNeg ((49 : Int32) + p1))) (fun x4 => pm_ck ((49 : Int32) + p1) 64 (pm_let (pm_up μ 51 (Int32.toNatClampNeg ((49 : Int32) + p1)) p3) (fun m5 => pm_ck ((56 : Int32) + p1) 64 (pm_let (pm_up m5 51 (Int32.toNatClampNeg ((56 : Int32) + p1)) p2) (fun m6 => (some (x4, m6))))))))))))))
abbrev rm_X10_farm : Room := { frames := 2, cells := 0, slots := 0, locals := 42 }
set_option maxRecDepth 20000 in
set_option maxHeartbeats 2000000 in
theorem k_X10_farm (l : Launch) (p1 : Int32) (p2 : Int32) (p3 : Int32) (μ : pm_M) : pm_Ok l yX10_farm cX10_farm 5 (some .int) rm_X10_farm [.ref 50, .int p1, .int p2, .int p3] SH false SH 0 0 (fun r => (some (.int r.1), r.2)) μ (f_X10_farm p1 p2 p3 μ) := by
  refine pm_enter (own := RX10) (by decide) rfl (fun h => by cases h) (ls := [some (.ref 50), some (.int p1), some (.int p2), some (.int p3), none]) rfl (fun _ => Nat.le_of_ble_eq_true rfl) ?_
  unfold f_X10_farm
  refine pv_iload_n dX10_farm_0 rfl ?_
  refine pv_cs_ri (rest := []) dX10_farm_1 my_X10_isFarm sl_X10_66 (k_X10_isFarm l SH p1 μ) rfl ⟨rfl, rfl, Nat.le_of_ble_eq_true rfl, Nat.le_of_ble_eq_true rfl⟩ ⟨Nat.zero_le _, Nat.zero_le _⟩ (Nat.le_of_ble_eq_true rfl) rfl (fun r1 => ?_)
  refine pv_if_eq (tgt := 14) dX10_farm_4 (by decide) ?_ ?_
  · refine pv_iconst (v := (-1)) dX10_farm_14 (by decide) ?_
    exact pv_iret dX10_farm_15 rfl rfl rfl
  · refine pv_iload_n dX10_farm_7 rfl ?_
    refine pv_cs_ri (rest := []) dX10_farm_8 my_X10_isFarm sl_X10_66 (k_X10_isFarm l SH p3 μ) rfl ⟨rfl, rfl, Nat.le_of_ble_eq_true rfl, Nat.le_of_ble_eq_true rfl⟩ ⟨Nat.zero_le _, Nat.zero_le _⟩ (Nat.le_of_ble_eq_true rfl) rfl (fun r2 => ?_)
    refine pv_if_ne (tgt := 16) dX10_farm_11 (by decide) ?_ ?_
    · refine pv_iload_n dX10_farm_16 rfl ?_
      refine pv_iconst (v := 0) dX10_farm_17 (by decide) ?_
      refine pv_bipush (v := 99) dX10_farm_18 (by decide) ?_
      refine pv_cs_ri (rest := []) dX10_farm_20 my_X10_in sl_X10_62 (k_X10_in l SH p2 (0 : Int32) (99 : Int32) μ) rfl ⟨rfl, rfl, Nat.le_of_ble_eq_true rfl, Nat.le_of_ble_eq_true rfl⟩ ⟨Nat.zero_le _, Nat.zero_le _⟩ (Nat.le_of_ble_eq_true rfl) rfl (fun r3 => ?_)
      refine pv_if_ne (tgt := 29) dX10_farm_23 (by decide) ?_ ?_
      · refine pv_aload_n dX10_farm_29 rfl ?_
        refine pv_getr dX10_farm_30 fl_X10_7 sh_50 rfl ?_
        refine pv_bipush (v := 49) dX10_farm_33 (by decide) ?_
        refine pv_iload_n dX10_farm_35 rfl ?_
        refine pv_iadd dX10_farm_36 ?_
        refine pv_iald dX10_farm_37 sh_51 ?_
        refine pv_let (fun x4 => ?_)
        refine pv_istore (ls' := [some (.ref 50), some (.int p1), some (.int p2), some (.int p3), some (.int x4)]) dX10_farm_38 (Nat.le_of_ble_eq_true rfl) rfl ?_
        refine pv_aload_n dX10_farm_40 rfl ?_
        refine pv_getr dX10_farm_41 fl_X10_7 sh_50 rfl ?_
        refine pv_bipush (v := 49) dX10_farm_44 (by decide) ?_
        refine pv_iload_n dX10_farm_46 rfl ?_
        refine pv_iadd dX10_farm_47 ?_
        refine pv_iload_n dX10_farm_48 rfl ?_
        refine pv_iast dX10_farm_49 sh_51 ?_
        refine pv_letM (fun m5 => ?_)
        refine pv_aload_n dX10_farm_50 rfl ?_
        refine pv_getr dX10_farm_51 fl_X10_7 sh_50 rfl ?_
        refine pv_bipush (v := 56) dX10_farm_54 (by decide) ?_
        refine pv_iload_n dX10_farm_56 rfl ?_
        refine pv_iadd dX10_farm_57 ?_
        refine pv_iload_n dX10_farm_58 rfl ?_
        refine pv_iast dX10_farm_59 sh_51 ?_
        refine pv_letM (fun m6 => ?_)
        refine pv_iload dX10_farm_60 rfl ?_
        exact pv_iret dX10_farm_62 rfl rfl rfl
      · refine pv_bipush (v := (-2)) dX10_farm_26 (by decide) ?_
        exact pv_iret dX10_farm_28 rfl rfl rfl
    · refine pv_iconst (v := (-1)) dX10_farm_14 (by decide) ?_
      exact pv_iret dX10_farm_15 rfl rfl rfl
def f_X10_rowOf_b5 (p1 : Int32) (p2 : Int32) (μ : pm_M) (v5 : (Int32 × Int32)) (T5 : ((Int32 × Int32) → Option Int32)) (E5 : (Int32 → Option Int32)) : Option Int32 :=
  (if (4 : Int32) ≤ v5.2 then (E5 v5.1) else pm_let ((((16 : Int32) * p1) + ((4 : Int32) * p2)) + v5.2) (fun x1 => pm_ck x1 32 (pm_let (((10 : Int32) * v5.1) + (μ 54 (Int32.toNatClampNeg x1))) (fun x2 => (T5 (x2, (v5.2 + 1)))))))
def f_X10_rowOf (p1 : Int32) (p2 : Int32) (μ : pm_M) : Option Int32 :=
  (pm_it (f_X10_rowOf_b5 p1 p2 μ) 5000 ((0 : Int32), (0 : Int32)) (fun e5 => (some e5)))
abbrev rm_X10_rowOf : Room := { frames := 0, cells := 0, slots := 0, locals := 0 }
set_option maxRecDepth 20000 in
set_option maxHeartbeats 2000000 in
theorem k_X10_rowOf (l : Launch) (p1 : Int32) (p2 : Int32) (μ : pm_M) : pm_Ok l yX10_rowOf cX10_rowOf 5 (some .int) rm_X10_rowOf [.ref 50, .int p1, .int p2] SH false SH 0 0 (fun r => (some (.int r), μ)) μ (f_X10_rowOf p1 p2 μ) := by
  refine pm_enter (own := RX10) (by decide) rfl (fun h => by cases h) (ls := [some (.ref 50), some (.int p1), some (.int p2), none, none]) rfl (fun _ => Nat.le_of_ble_eq_true rfl) ?_
  unfold f_X10_rowOf
  refine pv_iconst (v := 0) dX10_rowOf_0 (by decide) ?_
  refine pv_istore_n (ls' := [some (.ref 50), some (.int p1), some (.int p2), some (.int (0 : Int32)), none]) dX10_rowOf_1 (Nat.le_of_ble_eq_true rfl) rfl ?_
  refine pv_iconst (v := 0) dX10_rowOf_2 (by decide) ?_
  refine pv_istore (ls' := [some (.ref 50), some (.int p1), some (.int p2), some (.int (0 : Int32)), some (.int (0 : Int32))]) dX10_rowOf_3 (Nat.le_of_ble_eq_true rfl) rfl ?_
  refine pv_loop (body := (f_X10_rowOf_b5 p1 p2 μ)) (pcE := 39) (lsf := fun v5 => [some (.ref 50), some (.int p1), some (.int p2), some (.int v5.1), some (.int v5.2)]) (mf := fun v5 => μ) (lsE := fun e5 => [none, none, none, some (.int e5), none]) (mE := fun e5 => μ) (fun e5 => ?_) (fun E5 hE5 T5 hT5 v5 => ?_) 5000 ((0 : Int32), (0 : Int32))
  · refine pv_iload_n dX10_rowOf_39 rfl ?_
    exact pv_iret dX10_rowOf_40 rfl rfl rfl
  · unfold f_X10_rowOf_b5
    refine pv_iload dX10_rowOf_5 rfl ?_
    refine pv_iconst (v := 4) dX10_rowOf_7 (by decide) ?_
    refine pv_icmp_ge (tgt := 39) dX10_rowOf_8 (by decide) ?_ ?_
    · refine pv_mask (ls' := [none, none, none, some (.int v5.1), none]) [false, false, false, true, false] rfl ?_
      exact hE5 v5.1
    · refine pv_bipush (v := 10) dX10_rowOf_11 (by decide) ?_
      refine pv_iload_n dX10_rowOf_13 rfl ?_
      refine pv_imul dX10_rowOf_14 ?_
      refine pv_aload_n dX10_rowOf_15 rfl ?_
      refine pv_getr dX10_rowOf_16 fl_X10_19 sh_50 rfl ?_
      refine pv_bipush (v := 16) dX10_rowOf_19 (by decide) ?_
      refine pv_iload_n dX10_rowOf_21 rfl ?_
      refine pv_imul dX10_rowOf_22 ?_
      refine pv_iconst (v := 4) dX10_rowOf_23 (by decide) ?_
      refine pv_iload_n dX10_rowOf_24 rfl ?_
      refine pv_imul dX10_rowOf_25 ?_
      refine pv_iadd dX10_rowOf_26 ?_
      refine pv_iload dX10_rowOf_27 rfl ?_
      refine pv_iadd dX10_rowOf_29 ?_
      refine pv_let (fun x1 => ?_)
      refine pv_iald dX10_rowOf_30 sh_54 ?_
      refine pv_iadd dX10_rowOf_31 ?_
      refine pv_let (fun x2 => ?_)
      refine pv_istore_n (ls' := [some (.ref 50), some (.int p1), some (.int p2), some (.int x2), some (.int v5.2)]) dX10_rowOf_32 (Nat.le_of_ble_eq_true rfl) rfl ?_
      refine pv_iinc (v := (v5.2 + 1)) (ls' := [some (.ref 50), some (.int p1), some (.int p2), some (.int x2), some (.int (v5.2 + 1))]) dX10_rowOf_33 rfl rfl (Nat.le_of_ble_eq_true rfl) rfl ?_
      refine pv_goto (tgt := 5) dX10_rowOf_36 (by decide) ?_
      exact hT5 (x2, (v5.2 + 1))
def f_X10_likes_b29 (p3 : Int32) (v29 : (Int32 × Int32 × Int32)) (T29 : ((Int32 × Int32 × Int32) → Option (Int32 × pm_M))) (E29 : ((Int32 × Int32) → Option (Int32 × pm_M))) : Option (Int32 × pm_M) :=
  (if (4 : Int32) ≤ v29.2.2 then (E29 (v29.1, v29.2.1)) else (if p3 < 0 then (E29 (v29.1, v29.2.1)) else pm_let (v29.1 ||| ((1 : Int32) <<< ((pm_rem v29.2.1 (10 : Int32)) &&& 31))) (fun x3 => pm_let (v29.2.1 / (10 : Int32)) (fun x4 => (T29 (x3, x4, (v29.2.2 + 1)))))))
def f_X10_likes_b93 (p1 : Int32) (p2 : Int32) (v93 : (Int32 × Int32 × pm_M)) (T93 : ((Int32 × Int32 × pm_M) → Option (Int32 × pm_M))) (E93 : (pm_M → Option (Int32 × pm_M))) : Option (Int32 × pm_M) :=
  (if v93.2.1 < 0 then (E93 v93.2.2) else pm_ck ((((16 : Int32) * p1) + ((4 : Int32) * p2)) + v93.2.1) 32 (pm_let (pm_up v93.2.2 54 (Int32.toNatClampNeg ((((16 : Int32) * p1) + ((4 : Int32) * p2)) + v93.2.1)) (pm_rem v93.1 (10 : Int32))) (fun m6 => pm_let (v93.1 / (10 : Int32)) (fun x7 => (T93 (x7, (v93.2.1 + (-1)), m6))))))
def f_X10_likes (p1 : Int32) (p2 : Int32) (p3 : Int32) (μ : pm_M) : Option (Int32 × pm_M) :=
  (f_X10_in p1 (0 : Int32) (1 : Int32)).bind (fun r1 => (if r1 = 0 then (some ((-1 : Int32), μ)) else (f_X10_in p2 (0 : Int32) (3 : Int32)).bind (fun r2 => (if r2 = 0 then (some ((-1 : Int32), μ)) else (pm_it (f_X10_likes_b29 p3) 5000 ((0 : Int32), p3, (0 : Int32)) (fun e29 => (if e29.1 = (15 : Int32) then (if e29.2 = 0 then (f_X10_rowOf p1 p2 μ).bind (fun r5 => (pm_it (f_X10_likes_b93 p1 p2) 5000 (p3, (3 : Int32), μ) (fun e93 => (some (r5, e93))))) else (some ((-2 : Int32), μ))) else (some ((-2 : Int32), μ)))))))))
abbrev rm_X10_likes : Room := { frames := 1, cells := 0, slots := 0, locals := 24 }
set_option maxRecDepth 20000 in
set_option maxHeartbeats 2000000 in
theorem k_X10_likes (l : Launch) (p1 : Int32) (p2 : Int32) (p3 : Int32) (μ : pm_M) : pm_Ok l yX10_likes cX10_likes 8 (some .int) rm_X10_likes [.ref 50, .int p1, .int p2, .int p3] SH false SH 0 0 (fun r => (some (.int r.1), r.2)) μ (f_X10_likes p1 p2 p3 μ) := by
  refine pm_enter (own := RX10) (by decide) rfl (fun h => by cases h) (ls := [some (.ref 50), some (.int p1), some (.int p2), some (.int p3), none, none, none, none]) rfl (fun _ => Nat.le_of_ble_eq_true rfl) ?_
  unfold f_X10_likes
  refine pv_iload_n dX10_likes_0 rfl ?_
  refine pv_iconst (v := 0) dX10_likes_1 (by decide) ?_
  refine pv_iconst (v := 1) dX10_likes_2 (by decide) ?_
  refine pv_cs_ri (rest := []) dX10_likes_3 my_X10_in sl_X10_62 (k_X10_in l SH p1 (0 : Int32) (1 : Int32) μ) rfl ⟨rfl, rfl, Nat.le_of_ble_eq_true rfl, Nat.le_of_ble_eq_true rfl⟩ ⟨Nat.zero_le _, Nat.zero_le _⟩ (Nat.le_of_ble_eq_true rfl) rfl (fun r1 => ?_)
  refine pv_if_eq (tgt := 18) dX10_likes_6 (by decide) ?_ ?_
  · refine pv_iconst (v := (-1)) dX10_likes_18 (by decide) ?_
    exact pv_iret dX10_likes_19 rfl rfl rfl
  · refine pv_iload_n dX10_likes_9 rfl ?_
    refine pv_iconst (v := 0) dX10_likes_10 (by decide) ?_
    refine pv_iconst (v := 3) dX10_likes_11 (by decide) ?_
    refine pv_cs_ri (rest := []) dX10_likes_12 my_X10_in sl_X10_62 (k_X10_in l SH p2 (0 : Int32) (3 : Int32) μ) rfl ⟨rfl, rfl, Nat.le_of_ble_eq_true rfl, Nat.le_of_ble_eq_true rfl⟩ ⟨Nat.zero_le _, Nat.zero_le _⟩ (Nat.le_of_ble_eq_true rfl) rfl (fun r2 => ?_)
    refine pv_if_ne (tgt := 20) dX10_likes_15 (by decide) ?_ ?_
    · refine pv_iconst (v := 0) dX10_likes_20 (by decide) ?_
      refine pv_istore (ls' := [some (.ref 50), some (.int p1), some (.int p2), some (.int p3), some (.int (0 : Int32)), none, none, none]) dX10_likes_21 (Nat.le_of_ble_eq_true rfl) rfl ?_
      refine pv_iload_n dX10_likes_23 rfl ?_
      refine pv_istore (ls' := [some (.ref 50), some (.int p1), some (.int p2), some (.int p3), some (.int (0 : Int32)), some (.int p3), none, none]) dX10_likes_24 (Nat.le_of_ble_eq_true rfl) rfl ?_
      refine pv_iconst (v := 0) dX10_likes_26 (by decide) ?_
      refine pv_istore (ls' := [some (.ref 50), some (.int p1), some (.int p2), some (.int p3), some (.int (0 : Int32)), some (.int p3), some (.int (0 : Int32)), none]) dX10_likes_27 (Nat.le_of_ble_eq_true rfl) rfl ?_
      refine pv_loop (body := (f_X10_likes_b29 p3)) (pcE := 64) (lsf := fun v29 => [some (.ref 50), some (.int p1), some (.int p2), some (.int p3), some (.int v29.1), some (.int v29.2.1), some (.int v29.2.2), none]) (mf := fun v29 => μ) (lsE := fun e29 => [some (.ref 50), some (.int p1), some (.int p2), some (.int p3), some (.int e29.1), some (.int e29.2), none, none]) (mE := fun e29 => μ) (fun e29 => ?_) (fun E29 hE29 T29 hT29 v29 => ?_) 5000 ((0 : Int32), p3, (0 : Int32))
      · refine pv_iload dX10_likes_64 rfl ?_
        refine pv_bipush (v := 15) dX10_likes_66 (by decide) ?_
        refine pv_icmp_ne (tgt := 76) dX10_likes_68 (by decide) ?_ ?_
        · refine pv_bipush (v := (-2)) dX10_likes_76 (by decide) ?_
          exact pv_iret dX10_likes_78 rfl rfl rfl
        · refine pv_iload dX10_likes_71 rfl ?_
          refine pv_if_eq (tgt := 79) dX10_likes_73 (by decide) ?_ ?_
          · refine pv_aload_n dX10_likes_79 rfl ?_
            refine pv_iload_n dX10_likes_80 rfl ?_
            refine pv_iload_n dX10_likes_81 rfl ?_
            refine pv_cv_ri (rest := []) dX10_likes_82 my_X10_rowOf vl_X10_77 (k_X10_rowOf l p1 p2 μ) sh_50 rfl rfl ⟨rfl, rfl, Nat.le_of_ble_eq_true rfl, Nat.le_of_ble_eq_true rfl⟩ ⟨Nat.zero_le _, Nat.zero_le _⟩ (Nat.le_of_ble_eq_true rfl) rfl (fun r5 => ?_)
            refine pv_istore (ls' := [some (.ref 50), some (.int p1), some (.int p2), some (.int p3), some (.int e29.1), some (.int e29.2), some (.int r5), none]) dX10_likes_85 (Nat.le_of_ble_eq_true rfl) rfl ?_
            refine pv_iload_n dX10_likes_87 rfl ?_
            refine pv_istore (ls' := [some (.ref 50), some (.int p1), some (.int p2), some (.int p3), some (.int e29.1), some (.int p3), some (.int r5), none]) dX10_likes_88 (Nat.le_of_ble_eq_true rfl) rfl ?_
            refine pv_iconst (v := 3) dX10_likes_90 (by decide) ?_
            refine pv_istore (ls' := [some (.ref 50), some (.int p1), some (.int p2), some (.int p3), some (.int e29.1), some (.int p3), some (.int r5), some (.int (3 : Int32))]) dX10_likes_91 (Nat.le_of_ble_eq_true rfl) rfl ?_
            refine pv_mask (ls' := [some (.ref 50), some (.int p1), some (.int p2), none, none, some (.int p3), some (.int r5), some (.int (3 : Int32))]) [true, true, true, false, false, true, true, true] rfl ?_
            refine pv_loop (body := (f_X10_likes_b93 p1 p2)) (pcE := 132) (lsf := fun v93 => [some (.ref 50), some (.int p1), some (.int p2), none, none, some (.int v93.1), some (.int r5), some (.int v93.2.1)]) (mf := fun v93 => v93.2.2) (lsE := fun e93 => [none, none, none, none, none, none, some (.int r5), none]) (mE := fun e93 => e93) (fun e93 => ?_) (fun E93 hE93 T93 hT93 v93 => ?_) 5000 (p3, (3 : Int32), μ)
            · refine pv_iload dX10_likes_132 rfl ?_
              exact pv_iret dX10_likes_134 rfl rfl rfl
            · unfold f_X10_likes_b93
              refine pv_iload dX10_likes_93 rfl ?_
              refine pv_if_lt (tgt := 132) dX10_likes_95 (by decide) ?_ ?_
              · refine pv_mask (ls' := [none, none, none, none, none, none, some (.int r5), none]) [false, false, false, false, false, false, true, false] rfl ?_
                exact hE93 v93.2.2
              · refine pv_aload_n dX10_likes_98 rfl ?_
                refine pv_getr dX10_likes_99 fl_X10_19 sh_50 rfl ?_
                refine pv_bipush (v := 16) dX10_likes_102 (by decide) ?_
                refine pv_iload_n dX10_likes_104 rfl ?_
                refine pv_imul dX10_likes_105 ?_
                refine pv_iconst (v := 4) dX10_likes_106 (by decide) ?_
                refine pv_iload_n dX10_likes_107 rfl ?_
                refine pv_imul dX10_likes_108 ?_
                refine pv_iadd dX10_likes_109 ?_
                refine pv_iload dX10_likes_110 rfl ?_
                refine pv_iadd dX10_likes_112 ?_
                refine pv_iload dX10_likes_113 rfl ?_
                refine pv_bipush (v := 10) dX10_likes_115 (by decide) ?_
                refine pv_irem dX10_likes_117 (by decide) ?_
                refine pv_iast dX10_likes_118 sh_54 ?_
                refine pv_letM (fun m6 => ?_)
                refine pv_iload dX10_likes_119 rfl ?_
                refine pv_bipush (v := 10) dX10_likes_121 (by decide) ?_
                refine pv_idiv dX10_likes_123 (by decide) ?_
                refine pv_let (fun x7 => ?_)
                refine pv_istore (ls' := [some (.ref 50), some (.int p1), some (.int p2), none, none, some (.int x7), some (.int r5), some (.int v93.2.1)]) dX10_likes_124 (Nat.le_of_ble_eq_true rfl) rfl ?_
                refine pv_iinc (v := (v93.2.1 + (-1))) (ls' := [some (.ref 50), some (.int p1), some (.int p2), none, none, some (.int x7), some (.int r5), some (.int (v93.2.1 + (-1)))]) dX10_likes_126 rfl rfl (Nat.le_of_ble_eq_true rfl) rfl ?_
                refine pv_goto (tgt := 93) dX10_likes_129 (by decide) ?_
                exact hT93 (x7, (v93.2.1 + (-1)), m6)
          · refine pv_bipush (v := (-2)) dX10_likes_76 (by decide) ?_
            exact pv_iret dX10_likes_78 rfl rfl rfl
      · unfold f_X10_likes_b29
        refine pv_iload dX10_likes_29 rfl ?_
        refine pv_iconst (v := 4) dX10_likes_31 (by decide) ?_
        refine pv_icmp_ge (tgt := 64) dX10_likes_32 (by decide) ?_ ?_
        · refine pv_mask (ls' := [some (.ref 50), some (.int p1), some (.int p2), some (.int p3), some (.int v29.1), some (.int v29.2.1), none, none]) [true, true, true, true, true, true, false, false] rfl ?_
          exact hE29 (v29.1, v29.2.1)
        · refine pv_iload_n dX10_likes_35 rfl ?_
          refine pv_if_lt (tgt := 64) dX10_likes_36 (by decide) ?_ ?_
          · refine pv_mask (ls' := [some (.ref 50), some (.int p1), some (.int p2), some (.int p3), some (.int v29.1), some (.int v29.2.1), none, none]) [true, true, true, true, true, true, false, false] rfl ?_
            exact hE29 (v29.1, v29.2.1)
          · refine pv_iload dX10_likes_39 rfl ?_
            refine pv_iconst (v := 1) dX10_likes_41 (by decide) ?_
            refine pv_iload dX10_likes_42 rfl ?_
            refine pv_bipush (v := 10) dX10_likes_44 (by decide) ?_
            refine pv_irem dX10_likes_46 (by decide) ?_
            refine pv_ishl dX10_likes_47 ?_
            refine pv_ior dX10_likes_48 ?_
            refine pv_let (fun x3 => ?_)
            refine pv_istore (ls' := [some (.ref 50), some (.int p1), some (.int p2), some (.int p3), some (.int x3), some (.int v29.2.1), some (.int v29.2.2), none]) dX10_likes_49 (Nat.le_of_ble_eq_true rfl) rfl ?_
            refine pv_iload dX10_likes_51 rfl ?_
            refine pv_bipush (v := 10) dX10_likes_53 (by decide) ?_
            refine pv_idiv dX10_likes_55 (by decide) ?_
            refine pv_let (fun x4 => ?_)
            refine pv_istore (ls' := [some (.ref 50), some (.int p1), some (.int p2), some (.int p3), some (.int x3), some (.int x4), some (.int v29.2.2), none]) dX10_likes_56 (Nat.le_of_ble_eq_true rfl) rfl ?_
            refine pv_iinc (v := (v29.2.2 + 1)) (ls' := [some (.ref 50), some (.int p1), some (.int p2), some (.int p3), some (.int x3), some (.int x4), some (.int (v29.2.2 + 1)), none]) dX10_likes_58 rfl rfl (Nat.le_of_ble_eq_true rfl) rfl ?_
            refine pv_goto (tgt := 29) dX10_likes_61 (by decide) ?_
            exact hT29 (x3, x4, (v29.2.2 + 1))
    · refine pv_iconst (v := (-1)) dX10_likes_18 (by decide) ?_
      exact pv_iret dX10_likes_19 rfl rfl rfl
def f_X10_say (p1 : Int32) (μ : pm_M) : Option (Int32 × pm_M) :=
  (f_X10_in p1 (33 : Int32) (126 : Int32)).bind (fun r1 => (if r1 = 0 then (some ((-2 : Int32), μ)) else (if (μ 50 6) = (60 : Int32) then (some ((-4 : Int32), μ)) else pm_ck (μ 50 6) 60 (pm_let (pm_up μ 56 (Int32.toNatClampNeg (μ 50 6)) p1) (fun m2 => pm_let (pm_up m2 50 6 ((m2 50 6) + (1 : Int32))) (fun m3 => (some ((m3 50 6), m3))))))))
abbrev rm_X10_say : Room := { frames := 1, cells := 0, slots := 0, locals := 22 }
set_option maxRecDepth 20000 in
set_option maxHeartbeats 2000000 in
theorem k_X10_say (l : Launch) (p1 : Int32) (μ : pm_M) : pm_Ok l yX10_say cX10_say 2 (some .int) rm_X10_say [.ref 50, .int p1] SH false SH 0 0 (fun r => (some (.int r.1), r.2)) μ (f_X10_say p1 μ) := by
  refine pm_enter (own := RX10) (by decide) rfl (fun h => by cases h) (ls := [some (.ref 50), some (.int p1)]) rfl (fun _ => Nat.le_of_ble_eq_true rfl) ?_
  unfold f_X10_say
  refine pv_iload_n dX10_say_0 rfl ?_
  refine pv_bipush (v := 33) dX10_say_1 (by decide) ?_
  refine pv_bipush (v := 126) dX10_say_3 (by decide) ?_
  refine pv_cs_ri (rest := []) dX10_say_5 my_X10_in sl_X10_62 (k_X10_in l SH p1 (33 : Int32) (126 : Int32) μ) rfl ⟨rfl, rfl, Nat.le_of_ble_eq_true rfl, Nat.le_of_ble_eq_true rfl⟩ ⟨Nat.zero_le _, Nat.zero_le _⟩ (Nat.le_of_ble_eq_true rfl) rfl (fun r1 => ?_)
  refine pv_if_ne (tgt := 14) dX10_say_8 (by decide) ?_ ?_
  · refine pv_aload_n dX10_say_14 rfl ?_
    refine pv_geti dX10_say_15 fl_X10_81 sh_50 rfl ?_
    refine pv_bipush (v := 60) dX10_say_18 (by decide) ?_
    refine pv_icmp_ne (tgt := 26) dX10_say_20 (by decide) ?_ ?_
    · refine pv_aload_n dX10_say_26 rfl ?_
      refine pv_getr dX10_say_27 fl_X10_25 sh_50 rfl ?_
      refine pv_aload_n dX10_say_30 rfl ?_
      refine pv_geti dX10_say_31 fl_X10_81 sh_50 rfl ?_
      refine pv_iload_n dX10_say_34 rfl ?_
      refine pv_iast dX10_say_35 sh_56 ?_
      refine pv_letM (fun m2 => ?_)
      refine pv_aload_n dX10_say_36 rfl ?_
      refine pv_dup dX10_say_37 rfl ?_
      refine pv_geti dX10_say_38 fl_X10_81 sh_50 rfl ?_
      refine pv_iconst (v := 1) dX10_say_41 (by decide) ?_
      refine pv_iadd dX10_say_42 ?_
      refine pv_puti dX10_say_43 fp_X10_81 sh_50 rfl rfl rfl ?_
      refine pv_letM (fun m3 => ?_)
      refine pv_aload_n dX10_say_46 rfl ?_
      refine pv_geti dX10_say_47 fl_X10_81 sh_50 rfl ?_
      exact pv_iret dX10_say_50 rfl rfl rfl
    · refine pv_bipush (v := (-4)) dX10_say_23 (by decide) ?_
      exact pv_iret dX10_say_25 rfl rfl rfl
  · refine pv_bipush (v := (-2)) dX10_say_11 (by decide) ?_
    exact pv_iret dX10_say_13 rfl rfl rfl
def f_X10_wipe (μ : pm_M) : Option (Int32 × pm_M) :=
  pm_let (μ 50 6) (fun x1 => pm_let (pm_up μ 50 6 (0 : Int32)) (fun m2 => (some (x1, m2))))
abbrev rm_X10_wipe : Room := { frames := 0, cells := 0, slots := 0, locals := 0 }
set_option maxRecDepth 20000 in
set_option maxHeartbeats 2000000 in
theorem k_X10_wipe (l : Launch) (μ : pm_M) : pm_Ok l yX10_wipe cX10_wipe 2 (some .int) rm_X10_wipe [.ref 50] SH false SH 0 0 (fun r => (some (.int r.1), r.2)) μ (f_X10_wipe μ) := by
  refine pm_enter (own := RX10) (by decide) rfl (fun h => by cases h) (ls := [some (.ref 50), none]) rfl (fun _ => Nat.le_of_ble_eq_true rfl) ?_
  unfold f_X10_wipe
  refine pv_aload_n dX10_wipe_0 rfl ?_
  refine pv_geti dX10_wipe_1 fl_X10_81 sh_50 rfl ?_
  refine pv_let (fun x1 => ?_)
  refine pv_istore_n (ls' := [some (.ref 50), some (.int x1)]) dX10_wipe_4 (Nat.le_of_ble_eq_true rfl) rfl ?_
  refine pv_aload_n dX10_wipe_5 rfl ?_
  refine pv_iconst (v := 0) dX10_wipe_6 (by decide) ?_
  refine pv_puti dX10_wipe_7 fp_X10_81 sh_50 rfl rfl rfl ?_
  refine pv_letM (fun m2 => ?_)
  refine pv_iload_n dX10_wipe_10 rfl ?_
  exact pv_iret dX10_wipe_11 rfl rfl rfl
def f_X10_step (p0 : Int32) (p1 : Int32) : Option Int32 :=
  (f_X10_in p1 (97 : Int32) (103 : Int32)).bind (fun r1 => (pm_sw p0 [0, 1, 2] [(f_X10_in p1 (65 : Int32) (71 : Int32)).bind (fun r2 => (if r2 = 0 then (if p1 = (119 : Int32) then (some (3 : Int32)) else (if p1 = (46 : Int32) then (some (0 : Int32)) else (some (-6 : Int32)))) else (some (1 : Int32)))), (if r1 = 0 then (if p1 = (42 : Int32) then (some (0 : Int32)) else (if p1 = (33 : Int32) then (some (2 : Int32)) else (some (-6 : Int32)))) else (some (0 : Int32))), (if r1 = 0 then (some (-6 : Int32)) else (some (0 : Int32)))] ((f_X10_in p1 (49 : Int32) (57 : Int32)).bind (fun r3 => (if r3 = 0 then (some (-6 : Int32)) else (some (0 : Int32)))))))
abbrev rm_X10_step : Room := { frames := 1, cells := 0, slots := 0, locals := 22 }
set_option maxRecDepth 20000 in
set_option maxHeartbeats 2000000 in
theorem k_X10_step (l : Launch) (sh : pm_S) (p0 : Int32) (p1 : Int32) (μ : pm_M) : pm_Ok l yX10_step cX10_step 3 (some .int) rm_X10_step [.int p0, .int p1] sh false sh 0 0 (fun r => (some (.int r), μ)) μ (f_X10_step p0 p1) := by
  refine pm_enter (own := RX10) (by decide) rfl (fun h => by cases h) (ls := [some (.int p0), some (.int p1), none]) rfl (fun _ => Nat.le_of_ble_eq_true rfl) ?_
  unfold f_X10_step
  refine pv_iload_n dX10_step_0 rfl ?_
  refine pv_bipush (v := 97) dX10_step_1 (by decide) ?_
  refine pv_bipush (v := 103) dX10_step_3 (by decide) ?_
  refine pv_cs_ri (rest := []) dX10_step_5 my_X10_in sl_X10_62 (k_X10_in l sh p1 (97 : Int32) (103 : Int32) μ) rfl ⟨rfl, rfl, Nat.le_of_ble_eq_true rfl, Nat.le_of_ble_eq_true rfl⟩ ⟨Nat.zero_le _, Nat.zero_le _⟩ (Nat.le_of_ble_eq_true rfl) rfl (fun r1 => ?_)
  refine pv_istore_n (ls' := [some (.int p0), some (.int p1), some (.int r1)]) dX10_step_8 (Nat.le_of_ble_eq_true rfl) rfl ?_
  refine pv_iload_n dX10_step_9 rfl ?_
  refine pv_table (kys := [0, 1, 2]) (ts := [36, 74, 101]) (tD := 112) dX10_step_10 rfl (by decide) (by decide) (by decide) (by decide) ⟨?_, ?_, ?_, trivial⟩ ?_
  · refine pv_iload_n dX10_step_36 rfl ?_
    refine pv_bipush (v := 65) dX10_step_37 (by decide) ?_
    refine pv_bipush (v := 71) dX10_step_39 (by decide) ?_
    refine pv_cs_ri (rest := []) dX10_step_41 my_X10_in sl_X10_62 (k_X10_in l sh p1 (65 : Int32) (71 : Int32) μ) rfl ⟨rfl, rfl, Nat.le_of_ble_eq_true rfl, Nat.le_of_ble_eq_true rfl⟩ ⟨Nat.zero_le _, Nat.zero_le _⟩ (Nat.le_of_ble_eq_true rfl) rfl (fun r2 => ?_)
    refine pv_if_eq (tgt := 51) dX10_step_44 (by decide) ?_ ?_
    · refine pv_iload_n dX10_step_51 rfl ?_
      refine pv_bipush (v := 119) dX10_step_52 (by decide) ?_
      refine pv_icmp_ne (tgt := 61) dX10_step_54 (by decide) ?_ ?_
      · refine pv_iload_n dX10_step_61 rfl ?_
        refine pv_bipush (v := 46) dX10_step_62 (by decide) ?_
        refine pv_icmp_ne (tgt := 71) dX10_step_64 (by decide) ?_ ?_
        · refine pv_bipush (v := (-6)) dX10_step_71 (by decide) ?_
          exact pv_iret dX10_step_73 rfl rfl rfl
        · refine pv_iconst (v := 0) dX10_step_67 (by decide) ?_
          refine pv_goto (tgt := 73) dX10_step_68 (by decide) ?_
          exact pv_iret dX10_step_73 rfl rfl rfl
      · refine pv_iconst (v := 3) dX10_step_57 (by decide) ?_
        refine pv_goto (tgt := 73) dX10_step_58 (by decide) ?_
        exact pv_iret dX10_step_73 rfl rfl rfl
    · refine pv_iconst (v := 1) dX10_step_47 (by decide) ?_
      refine pv_goto (tgt := 73) dX10_step_48 (by decide) ?_
      exact pv_iret dX10_step_73 rfl rfl rfl
  · refine pv_iload_n dX10_step_74 rfl ?_
    refine pv_if_ne (tgt := 84) dX10_step_75 (by decide) ?_ ?_
    · refine pv_iconst (v := 0) dX10_step_84 (by decide) ?_
      refine pv_goto (tgt := 100) dX10_step_85 (by decide) ?_
      exact pv_iret dX10_step_100 rfl rfl rfl
    · refine pv_iload_n dX10_step_78 rfl ?_
      refine pv_bipush (v := 42) dX10_step_79 (by decide) ?_
      refine pv_icmp_ne (tgt := 88) dX10_step_81 (by decide) ?_ ?_
      · refine pv_iload_n dX10_step_88 rfl ?_
        refine pv_bipush (v := 33) dX10_step_89 (by decide) ?_
        refine pv_icmp_ne (tgt := 98) dX10_step_91 (by decide) ?_ ?_
        · refine pv_bipush (v := (-6)) dX10_step_98 (by decide) ?_
          exact pv_iret dX10_step_100 rfl rfl rfl
        · refine pv_iconst (v := 2) dX10_step_94 (by decide) ?_
          refine pv_goto (tgt := 100) dX10_step_95 (by decide) ?_
          exact pv_iret dX10_step_100 rfl rfl rfl
      · refine pv_iconst (v := 0) dX10_step_84 (by decide) ?_
        refine pv_goto (tgt := 100) dX10_step_85 (by decide) ?_
        exact pv_iret dX10_step_100 rfl rfl rfl
  · refine pv_iload_n dX10_step_101 rfl ?_
    refine pv_if_eq (tgt := 109) dX10_step_102 (by decide) ?_ ?_
    · refine pv_bipush (v := (-6)) dX10_step_109 (by decide) ?_
      exact pv_iret dX10_step_111 rfl rfl rfl
    · refine pv_iconst (v := 0) dX10_step_105 (by decide) ?_
      refine pv_goto (tgt := 111) dX10_step_106 (by decide) ?_
      exact pv_iret dX10_step_111 rfl rfl rfl
  · refine pv_iload_n dX10_step_112 rfl ?_
    refine pv_bipush (v := 49) dX10_step_113 (by decide) ?_
    refine pv_bipush (v := 57) dX10_step_115 (by decide) ?_
    refine pv_cs_ri (rest := []) dX10_step_117 my_X10_in sl_X10_62 (k_X10_in l sh p1 (49 : Int32) (57 : Int32) μ) rfl ⟨rfl, rfl, Nat.le_of_ble_eq_true rfl, Nat.le_of_ble_eq_true rfl⟩ ⟨Nat.zero_le _, Nat.zero_le _⟩ (Nat.le_of_ble_eq_true rfl) rfl (fun r3 => ?_)
    refine pv_if_eq (tgt := 127) dX10_step_120 (by decide) ?_ ?_
    · refine pv_bipush (v := (-6)) dX10_step_127 (by decide) ?_
      exact pv_iret dX10_step_129 rfl rfl rfl
    · refine pv_iconst (v := 0) dX10_step_123 (by decide) ?_
      refine pv_goto (tgt := 129) dX10_step_124 (by decide) ?_
      exact pv_iret dX10_step_129 rfl rfl rfl
def f_X10_faultOf_b4 (μ : pm_M) (v4 : (Int32 × Int32)) (T4 : ((Int32 × Int32) → Option Int32)) (E4 : (Int32 → Option Int32)) : Option Int32 :=
  (if (μ 50 6) ≤ v4.2 then (E4 v4.1) else pm_ck v4.2 60 ((f_X10_step v4.1 (μ 56 (Int32.toNatClampNeg v4.2))).bind (fun r1 => (if 0 ≤ r1 then (T4 (r1, (v4.2 + 1))) else (some v4.2)))))
def f_X10_faultOf (μ : pm_M) : Option Int32 :=
  (pm_it (f_X10_faultOf_b4 μ) 5000 ((0 : Int32), (0 : Int32)) (fun e4 => (if e4 = 0 then (some (-6 : Int32)) else (some (μ 50 6)))))
abbrev rm_X10_faultOf : Room := { frames := 2, cells := 0, slots := 0, locals := 44 }
set_option maxRecDepth 20000 in
set_option maxHeartbeats 2000000 in
theorem k_X10_faultOf (l : Launch) (μ : pm_M) : pm_Ok l yX10_faultOf cX10_faultOf 3 (some .int) rm_X10_faultOf [.ref 50] SH false SH 0 0 (fun r => (some (.int r), μ)) μ (f_X10_faultOf μ) := by
  refine pm_enter (own := RX10) (by decide) rfl (fun h => by cases h) (ls := [some (.ref 50), none, none]) rfl (fun _ => Nat.le_of_ble_eq_true rfl) ?_
  unfold f_X10_faultOf
  refine pv_iconst (v := 0) dX10_faultOf_0 (by decide) ?_
  refine pv_istore_n (ls' := [some (.ref 50), some (.int (0 : Int32)), none]) dX10_faultOf_1 (Nat.le_of_ble_eq_true rfl) rfl ?_
  refine pv_iconst (v := 0) dX10_faultOf_2 (by decide) ?_
  refine pv_istore_n (ls' := [some (.ref 50), some (.int (0 : Int32)), some (.int (0 : Int32))]) dX10_faultOf_3 (Nat.le_of_ble_eq_true rfl) rfl ?_
  refine pv_loop (body := (f_X10_faultOf_b4 μ)) (pcE := 35) (lsf := fun v4 => [some (.ref 50), some (.int v4.1), some (.int v4.2)]) (mf := fun v4 => μ) (lsE := fun e4 => [some (.ref 50), some (.int e4), none]) (mE := fun e4 => μ) (fun e4 => ?_) (fun E4 hE4 T4 hT4 v4 => ?_) 5000 ((0 : Int32), (0 : Int32))
  · refine pv_iload_n dX10_faultOf_35 rfl ?_
    refine pv_if_ne (tgt := 44) dX10_faultOf_36 (by decide) ?_ ?_
    · refine pv_aload_n dX10_faultOf_44 rfl ?_
      refine pv_geti dX10_faultOf_45 fl_X10_81 sh_50 rfl ?_
      exact pv_iret dX10_faultOf_48 rfl rfl rfl
    · refine pv_bipush (v := (-6)) dX10_faultOf_39 (by decide) ?_
      refine pv_goto (tgt := 48) dX10_faultOf_41 (by decide) ?_
      exact pv_iret dX10_faultOf_48 rfl rfl rfl
  · unfold f_X10_faultOf_b4
    refine pv_iload_n dX10_faultOf_4 rfl ?_
    refine pv_aload_n dX10_faultOf_5 rfl ?_
    refine pv_geti dX10_faultOf_6 fl_X10_81 sh_50 rfl ?_
    refine pv_icmp_ge (tgt := 35) dX10_faultOf_9 (by decide) ?_ ?_
    · refine pv_mask (ls' := [some (.ref 50), some (.int v4.1), none]) [true, true, false] rfl ?_
      exact hE4 v4.1
    · refine pv_iload_n dX10_faultOf_12 rfl ?_
      refine pv_aload_n dX10_faultOf_13 rfl ?_
      refine pv_getr dX10_faultOf_14 fl_X10_25 sh_50 rfl ?_
      refine pv_iload_n dX10_faultOf_17 rfl ?_
      refine pv_iald dX10_faultOf_18 sh_56 ?_
      refine pv_cs_ri (rest := []) dX10_faultOf_19 my_X10_step sl_X10_85 (k_X10_step l SH v4.1 (μ 56 (Int32.toNatClampNeg v4.2)) μ) rfl ⟨rfl, rfl, Nat.le_of_ble_eq_true rfl, Nat.le_of_ble_eq_true rfl⟩ ⟨Nat.zero_le _, Nat.zero_le _⟩ (Nat.le_of_ble_eq_true rfl) rfl (fun r1 => ?_)
      refine pv_istore_n (ls' := [some (.ref 50), some (.int r1), some (.int v4.2)]) dX10_faultOf_22 (Nat.le_of_ble_eq_true rfl) rfl ?_
      refine pv_iload_n dX10_faultOf_23 rfl ?_
      refine pv_if_ge (tgt := 29) dX10_faultOf_24 (by decide) ?_ ?_
      · refine pv_iinc (v := (v4.2 + 1)) (ls' := [some (.ref 50), some (.int r1), some (.int (v4.2 + 1))]) dX10_faultOf_29 rfl rfl (Nat.le_of_ble_eq_true rfl) rfl ?_
        refine pv_goto (tgt := 4) dX10_faultOf_32 (by decide) ?_
        exact hT4 (r1, (v4.2 + 1))
      · refine pv_iload_n dX10_faultOf_27 rfl ?_
        exact pv_iret dX10_faultOf_28 rfl rfl rfl
def f_X10_fault (μ : pm_M) : Option Int32 :=
  (f_X10_faultOf μ).bind (fun r1 => (some r1))
abbrev rm_X10_fault : Room := { frames := 3, cells := 0, slots := 0, locals := 66 }
set_option maxRecDepth 20000 in
set_option maxHeartbeats 2000000 in
theorem k_X10_fault (l : Launch) (μ : pm_M) : pm_Ok l yX10_fault cX10_fault 1 (some .int) rm_X10_fault [.ref 50] SH false SH 0 0 (fun r => (some (.int r), μ)) μ (f_X10_fault μ) := by
  refine pm_enter (own := RX10) (by decide) rfl (fun h => by cases h) (ls := [some (.ref 50)]) rfl (fun _ => Nat.le_of_ble_eq_true rfl) ?_
  unfold f_X10_fault
  refine pv_aload_n dX10_fault_0 rfl ?_
  refine pv_cv_ri (rest := []) dX10_fault_1 my_X10_faultOf vl_X10_88 (k_X10_faultOf l μ) sh_50 rfl rfl ⟨rfl, rfl, Nat.le_of_ble_eq_true rfl, Nat.le_of_ble_eq_true rfl⟩ ⟨Nat.zero_le _, Nat.zero_le _⟩ (Nat.le_of_ble_eq_true rfl) rfl (fun r1 => ?_)
  exact pv_iret dX10_fault_4 rfl rfl rfl
def f_X10_away_b4 (μ : pm_M) (v4 : (Int32 × Int32)) (T4 : ((Int32 × Int32) → Option Int32)) (E4 : (Int32 → Option Int32)) : Option Int32 :=
  (if (7 : Int32) ≤ v4.2 then (E4 v4.1) else pm_ck ((49 : Int32) + v4.2) 64 ((pm_jn (fun (a1 : Int32) => pm_let (v4.1 ||| a1) (fun x2 => (T4 (x2, (v4.2 + 1))))) (fun j31 => (if (μ 52 (Int32.toNatClampNeg ((49 : Int32) + v4.2))) = v4.2 then (j31 (0 : Int32)) else (j31 ((1 : Int32) <<< (v4.2 &&& 31))))))))
def f_X10_away (μ : pm_M) : Option Int32 :=
  (pm_it (f_X10_away_b4 μ) 5000 ((0 : Int32), (0 : Int32)) (fun e4 => (some e4)))
abbrev rm_X10_away : Room := { frames := 0, cells := 0, slots := 0, locals := 0 }
set_option maxRecDepth 20000 in
set_option maxHeartbeats 2000000 in
theorem k_X10_away (l : Launch) (μ : pm_M) : pm_Ok l yX10_away cX10_away 3 (some .int) rm_X10_away [.ref 50] SH false SH 0 0 (fun r => (some (.int r), μ)) μ (f_X10_away μ) := by
  refine pm_enter (own := RX10) (by decide) rfl (fun h => by cases h) (ls := [some (.ref 50), none, none]) rfl (fun _ => Nat.le_of_ble_eq_true rfl) ?_
  unfold f_X10_away
  refine pv_iconst (v := 0) dX10_away_0 (by decide) ?_
  refine pv_istore_n (ls' := [some (.ref 50), some (.int (0 : Int32)), none]) dX10_away_1 (Nat.le_of_ble_eq_true rfl) rfl ?_
  refine pv_iconst (v := 0) dX10_away_2 (by decide) ?_
  refine pv_istore_n (ls' := [some (.ref 50), some (.int (0 : Int32)), some (.int (0 : Int32))]) dX10_away_3 (Nat.le_of_ble_eq_true rfl) rfl ?_
  refine pv_loop (body := (f_X10_away_b4 μ)) (pcE := 39) (lsf := fun v4 => [some (.ref 50), some (.int v4.1), some (.int v4.2)]) (mf := fun v4 => μ) (lsE := fun e4 => [none, some (.int e4), none]) (mE := fun e4 => μ) (fun e4 => ?_) (fun E4 hE4 T4 hT4 v4 => ?_) 5000 ((0 : Int32), (0 : Int32))
  · refine pv_iload_n dX10_away_39 rfl ?_
    exact pv_iret dX10_away_40 rfl rfl rfl
  · unfold f_X10_away_b4
    refine pv_iload_n dX10_away_4 rfl ?_
    refine pv_bipush (v := 7) dX10_away_5 (by decide) ?_
    refine pv_icmp_ge (tgt := 39) dX10_away_7 (by decide) ?_ ?_
    · refine pv_mask (ls' := [none, some (.int v4.1), none]) [false, true, false] rfl ?_
      exact hE4 v4.1
    · refine pv_iload_n dX10_away_10 rfl ?_
      refine pv_aload_n dX10_away_11 rfl ?_
      refine pv_getr dX10_away_12 fl_X10_13 sh_50 rfl ?_
      refine pv_bipush (v := 49) dX10_away_15 (by decide) ?_
      refine pv_iload_n dX10_away_17 rfl ?_
      refine pv_iadd dX10_away_18 ?_
      refine pv_iald dX10_away_19 sh_52 ?_
      refine pv_iload_n dX10_away_20 rfl ?_
      refine pv_jn (pcJ := 31) (lsJ := fun a1 => [some (.ref 50), none, some (.int v4.2)]) (stJ := fun a1 => [.int a1, .int v4.1]) (mJ := fun a1 => μ) (fun a1 => ?_) (fun j31 hj31 => ?_)
      · refine pv_ior dX10_away_31 ?_
        refine pv_let (fun x2 => ?_)
        refine pv_istore_n (ls' := [some (.ref 50), some (.int x2), some (.int v4.2)]) dX10_away_32 (Nat.le_of_ble_eq_true rfl) rfl ?_
        refine pv_iinc (v := (v4.2 + 1)) (ls' := [some (.ref 50), some (.int x2), some (.int (v4.2 + 1))]) dX10_away_33 rfl rfl (Nat.le_of_ble_eq_true rfl) rfl ?_
        refine pv_goto (tgt := 4) dX10_away_36 (by decide) ?_
        exact hT4 (x2, (v4.2 + 1))
      · refine pv_icmp_ne (tgt := 28) dX10_away_21 (by decide) ?_ ?_
        · refine pv_iconst (v := 1) dX10_away_28 (by decide) ?_
          refine pv_iload_n dX10_away_29 rfl ?_
          refine pv_ishl dX10_away_30 ?_
          refine pv_mask (ls' := [some (.ref 50), none, some (.int v4.2)]) [true, false, true] rfl ?_
          exact hj31 ((1 : Int32) <<< (v4.2 &&& 31))
        · refine pv_iconst (v := 0) dX10_away_24 (by decide) ?_
          refine pv_goto (tgt := 31) dX10_away_25 (by decide) ?_
          refine pv_mask (ls' := [some (.ref 50), none, some (.int v4.2)]) [true, false, true] rfl ?_
          exact hj31 (0 : Int32)
def f_X10_lay (p1 : Int32) (p2 : Int32) (p3 : Int32) (μ : pm_M) : Option pm_M :=
  pm_ck (((7 : Int32) * p1) + p2) 64 (pm_let (pm_up μ 52 (Int32.toNatClampNeg (((7 : Int32) * p1) + p2)) p3) (fun m1 => pm_ck (((7 : Int32) * p2) + p1) 64 (pm_let (pm_up m1 52 (Int32.toNatClampNeg (((7 : Int32) * p2) + p1)) p3) (fun m2 => (some m2)))))
abbrev rm_X10_lay : Room := { frames := 0, cells := 0, slots := 0, locals := 0 }
set_option maxRecDepth 20000 in
set_option maxHeartbeats 2000000 in
theorem k_X10_lay (l : Launch) (p1 : Int32) (p2 : Int32) (p3 : Int32) (μ : pm_M) : pm_Ok l yX10_lay cX10_lay 4 none rm_X10_lay [.ref 50, .int p1, .int p2, .int p3] SH false SH 0 0 (fun r => (none, r)) μ (f_X10_lay p1 p2 p3 μ) := by
  refine pm_enter (own := RX10) (by decide) rfl (fun h => by cases h) (ls := [some (.ref 50), some (.int p1), some (.int p2), some (.int p3)]) rfl (fun _ => Nat.le_of_ble_eq_true rfl) ?_
  unfold f_X10_lay
  refine pv_aload_n dX10_lay_0 rfl ?_
  refine pv_getr dX10_lay_1 fl_X10_13 sh_50 rfl ?_
  refine pv_bipush (v := 7) dX10_lay_4 (by decide) ?_
  refine pv_iload_n dX10_lay_6 rfl ?_
  refine pv_imul dX10_lay_7 ?_
  refine pv_iload_n dX10_lay_8 rfl ?_
  refine pv_iadd dX10_lay_9 ?_
  refine pv_iload_n dX10_lay_10 rfl ?_
  refine pv_iast dX10_lay_11 sh_52 ?_
  refine pv_letM (fun m1 => ?_)
  refine pv_aload_n dX10_lay_12 rfl ?_
  refine pv_getr dX10_lay_13 fl_X10_13 sh_50 rfl ?_
  refine pv_bipush (v := 7) dX10_lay_16 (by decide) ?_
  refine pv_iload_n dX10_lay_18 rfl ?_
  refine pv_imul dX10_lay_19 ?_
  refine pv_iload_n dX10_lay_20 rfl ?_
  refine pv_iadd dX10_lay_21 ?_
  refine pv_iload_n dX10_lay_22 rfl ?_
  refine pv_iast dX10_lay_23 sh_52 ?_
  refine pv_letM (fun m2 => ?_)
  exact pv_vret dX10_lay_24 rfl rfl
def f_X10_go (p1 : Int32) (p2 : Int32) (μ : pm_M) : Option (Int32 × pm_M) :=
  pm_ck ((49 : Int32) + p1) 64 (pm_let (μ 52 (Int32.toNatClampNeg ((49 : Int32) + p1))) (fun x1 => (if x1 = p2 then (some ((1 : Int32), μ)) else pm_ck (((7 : Int32) * x1) + p2) 49 ((if (μ 53 (Int32.toNatClampNeg (((7 : Int32) * x1) + p2))) = 0 then (some ((2 : Int32), μ)) else pm_ck (((7 : Int32) * x1) + p2) 49 (pm_let (pm_up μ 50 8 ((μ 50 8) + (μ 53 (Int32.toNatClampNeg (((7 : Int32) * x1) + p2))))) (fun m2 => pm_ck ((49 : Int32) + p1) 64 (pm_let (pm_up m2 52 (Int32.toNatClampNeg ((49 : Int32) + p1)) p2) (fun m3 => (some ((0 : Int32), m3)))))))))))
abbrev rm_X10_go : Room := { frames := 0, cells := 0, slots := 0, locals := 0 }
set_option maxRecDepth 20000 in
set_option maxHeartbeats 2000000 in
theorem k_X10_go (l : Launch) (p1 : Int32) (p2 : Int32) (μ : pm_M) : pm_Ok l yX10_go cX10_go 4 (some .int) rm_X10_go [.ref 50, .int p1, .int p2] SH false SH 0 0 (fun r => (some (.int r.1), r.2)) μ (f_X10_go p1 p2 μ) := by
  refine pm_enter (own := RX10) (by decide) rfl (fun h => by cases h) (ls := [some (.ref 50), some (.int p1), some (.int p2), none]) rfl (fun _ => Nat.le_of_ble_eq_true rfl) ?_
  unfold f_X10_go
  refine pv_aload_n dX10_go_0 rfl ?_
  refine pv_getr dX10_go_1 fl_X10_13 sh_50 rfl ?_
  refine pv_bipush (v := 49) dX10_go_4 (by decide) ?_
  refine pv_iload_n dX10_go_6 rfl ?_
  refine pv_iadd dX10_go_7 ?_
  refine pv_iald dX10_go_8 sh_52 ?_
  refine pv_let (fun x1 => ?_)
  refine pv_istore_n (ls' := [some (.ref 50), some (.int p1), some (.int p2), some (.int x1)]) dX10_go_9 (Nat.le_of_ble_eq_true rfl) rfl ?_
  refine pv_iload_n dX10_go_10 rfl ?_
  refine pv_iload_n dX10_go_11 rfl ?_
  refine pv_icmp_ne (tgt := 17) dX10_go_12 (by decide) ?_ ?_
  · refine pv_aload_n dX10_go_17 rfl ?_
    refine pv_getr dX10_go_18 fl_X10_16 sh_50 rfl ?_
    refine pv_bipush (v := 7) dX10_go_21 (by decide) ?_
    refine pv_iload_n dX10_go_23 rfl ?_
    refine pv_imul dX10_go_24 ?_
    refine pv_iload_n dX10_go_25 rfl ?_
    refine pv_iadd dX10_go_26 ?_
    refine pv_iald dX10_go_27 sh_53 ?_
    refine pv_if_ne (tgt := 33) dX10_go_28 (by decide) ?_ ?_
    · refine pv_aload_n dX10_go_33 rfl ?_
      refine pv_dup dX10_go_34 rfl ?_
      refine pv_geti dX10_go_35 fl_X10_92 sh_50 rfl ?_
      refine pv_aload_n dX10_go_38 rfl ?_
      refine pv_getr dX10_go_39 fl_X10_16 sh_50 rfl ?_
      refine pv_bipush (v := 7) dX10_go_42 (by decide) ?_
      refine pv_iload_n dX10_go_44 rfl ?_
      refine pv_imul dX10_go_45 ?_
      refine pv_iload_n dX10_go_46 rfl ?_
      refine pv_iadd dX10_go_47 ?_
      refine pv_iald dX10_go_48 sh_53 ?_
      refine pv_iadd dX10_go_49 ?_
      refine pv_puti dX10_go_50 fp_X10_92 sh_50 rfl rfl rfl ?_
      refine pv_letM (fun m2 => ?_)
      refine pv_aload_n dX10_go_53 rfl ?_
      refine pv_getr dX10_go_54 fl_X10_13 sh_50 rfl ?_
      refine pv_bipush (v := 49) dX10_go_57 (by decide) ?_
      refine pv_iload_n dX10_go_59 rfl ?_
      refine pv_iadd dX10_go_60 ?_
      refine pv_iload_n dX10_go_61 rfl ?_
      refine pv_iast dX10_go_62 sh_52 ?_
      refine pv_letM (fun m3 => ?_)
      refine pv_iconst (v := 0) dX10_go_63 (by decide) ?_
      exact pv_iret dX10_go_64 rfl rfl rfl
    · refine pv_iconst (v := 2) dX10_go_31 (by decide) ?_
      exact pv_iret dX10_go_32 rfl rfl rfl
  · refine pv_iconst (v := 1) dX10_go_15 (by decide) ?_
    exact pv_iret dX10_go_16 rfl rfl rfl
def f_X10_mend (p1 : Int32) (μ : pm_M) : Option (Int32 × pm_M) :=
  pm_ck ((49 : Int32) + p1) 64 (pm_let (μ 52 (Int32.toNatClampNeg ((49 : Int32) + p1))) (fun x1 => pm_ck (((7 : Int32) * p1) + x1) 64 (pm_let (μ 52 (Int32.toNatClampNeg (((7 : Int32) * p1) + x1))) (fun x2 => (if x1 = p1 then (some ((3 : Int32), μ)) else (if 0 ≤ x2 then (if x2 = (9 : Int32) then (some ((5 : Int32), μ)) else (pm_jn (fun (a3 : Int32) => (f_X10_lay p1 x1 a3 μ).bind (fun m4 => (some ((0 : Int32), m4)))) (fun j60 => (if x2 ≤ (6 : Int32) then (j60 (x2 + (3 : Int32))) else (j60 (9 : Int32)))))) else (some ((4 : Int32), μ))))))))
abbrev rm_X10_mend : Room := { frames := 1, cells := 0, slots := 0, locals := 23 }
set_option maxRecDepth 20000 in
set_option maxHeartbeats 2000000 in
theorem k_X10_mend (l : Launch) (p1 : Int32) (μ : pm_M) : pm_Ok l yX10_mend cX10_mend 4 (some .int) rm_X10_mend [.ref 50, .int p1] SH false SH 0 0 (fun r => (some (.int r.1), r.2)) μ (f_X10_mend p1 μ) := by
  refine pm_enter (own := RX10) (by decide) rfl (fun h => by cases h) (ls := [some (.ref 50), some (.int p1), none, none]) rfl (fun _ => Nat.le_of_ble_eq_true rfl) ?_
  unfold f_X10_mend
  refine pv_aload_n dX10_mend_0 rfl ?_
  refine pv_getr dX10_mend_1 fl_X10_13 sh_50 rfl ?_
  refine pv_bipush (v := 49) dX10_mend_4 (by decide) ?_
  refine pv_iload_n dX10_mend_6 rfl ?_
  refine pv_iadd dX10_mend_7 ?_
  refine pv_iald dX10_mend_8 sh_52 ?_
  refine pv_let (fun x1 => ?_)
  refine pv_istore_n (ls' := [some (.ref 50), some (.int p1), some (.int x1), none]) dX10_mend_9 (Nat.le_of_ble_eq_true rfl) rfl ?_
  refine pv_aload_n dX10_mend_10 rfl ?_
  refine pv_getr dX10_mend_11 fl_X10_13 sh_50 rfl ?_
  refine pv_bipush (v := 7) dX10_mend_14 (by decide) ?_
  refine pv_iload_n dX10_mend_16 rfl ?_
  refine pv_imul dX10_mend_17 ?_
  refine pv_iload_n dX10_mend_18 rfl ?_
  refine pv_iadd dX10_mend_19 ?_
  refine pv_iald dX10_mend_20 sh_52 ?_
  refine pv_let (fun x2 => ?_)
  refine pv_istore_n (ls' := [some (.ref 50), some (.int p1), some (.int x1), some (.int x2)]) dX10_mend_21 (Nat.le_of_ble_eq_true rfl) rfl ?_
  refine pv_iload_n dX10_mend_22 rfl ?_
  refine pv_iload_n dX10_mend_23 rfl ?_
  refine pv_icmp_ne (tgt := 29) dX10_mend_24 (by decide) ?_ ?_
  · refine pv_iload_n dX10_mend_29 rfl ?_
    refine pv_if_ge (tgt := 35) dX10_mend_30 (by decide) ?_ ?_
    · refine pv_iload_n dX10_mend_35 rfl ?_
      refine pv_bipush (v := 9) dX10_mend_36 (by decide) ?_
      refine pv_icmp_ne (tgt := 43) dX10_mend_38 (by decide) ?_ ?_
      · refine pv_aload_n dX10_mend_43 rfl ?_
        refine pv_iload_n dX10_mend_44 rfl ?_
        refine pv_iload_n dX10_mend_45 rfl ?_
        refine pv_iload_n dX10_mend_46 rfl ?_
        refine pv_bipush (v := 6) dX10_mend_47 (by decide) ?_
        refine pv_jn (pcJ := 60) (lsJ := fun a3 => [none, none, none, none]) (stJ := fun a3 => [.int a3, .int x1, .int p1, .ref 50]) (mJ := fun a3 => μ) (fun a3 => ?_) (fun j60 hj60 => ?_)
        · refine pv_cv_wv (rest := []) dX10_mend_60 my_X10_lay vl_X10_101 (k_X10_lay l p1 x1 a3 μ) sh_50 rfl rfl ⟨rfl, rfl, Nat.le_of_ble_eq_true rfl, Nat.le_of_ble_eq_true rfl⟩ ⟨Nat.zero_le _, Nat.zero_le _⟩ (Nat.le_of_ble_eq_true rfl) rfl (fun m4 => ?_)
          refine pv_iconst (v := 0) dX10_mend_63 (by decide) ?_
          exact pv_iret dX10_mend_64 rfl rfl rfl
        · refine pv_icmp_le (tgt := 57) dX10_mend_49 (by decide) ?_ ?_
          · refine pv_iload_n dX10_mend_57 rfl ?_
            refine pv_iconst (v := 3) dX10_mend_58 (by decide) ?_
            refine pv_iadd dX10_mend_59 ?_
            refine pv_mask (ls' := [none, none, none, none]) [false, false, false, false] rfl ?_
            exact hj60 (x2 + (3 : Int32))
          · refine pv_bipush (v := 9) dX10_mend_52 (by decide) ?_
            refine pv_goto (tgt := 60) dX10_mend_54 (by decide) ?_
            refine pv_mask (ls' := [none, none, none, none]) [false, false, false, false] rfl ?_
            exact hj60 (9 : Int32)
      · refine pv_iconst (v := 5) dX10_mend_41 (by decide) ?_
        exact pv_iret dX10_mend_42 rfl rfl rfl
    · refine pv_iconst (v := 4) dX10_mend_33 (by decide) ?_
      exact pv_iret dX10_mend_34 rfl rfl rfl
  · refine pv_iconst (v := 3) dX10_mend_27 (by decide) ?_
    exact pv_iret dX10_mend_28 rfl rfl rfl
def f_X10_split (p1 : Int32) (p2 : Int32) (μ : pm_M) : Option (Int32 × pm_M) :=
  pm_ck (((7 : Int32) * p1) + p2) 64 (pm_let (μ 52 (Int32.toNatClampNeg (((7 : Int32) * p1) + p2))) (fun x1 => pm_ck ((49 : Int32) + p1) 64 ((if (μ 52 (Int32.toNatClampNeg ((49 : Int32) + p1))) = p1 then (if 0 ≤ x1 then (if x1 = 0 then (some ((5 : Int32), μ)) else (f_X10_lay p1 p2 (x1 / (2 : Int32)) μ).bind (fun m2 => (some ((0 : Int32), m2)))) else (some ((4 : Int32), μ))) else (some ((3 : Int32), μ))))))
abbrev rm_X10_split : Room := { frames := 1, cells := 0, slots := 0, locals := 23 }
set_option maxRecDepth 20000 in
set_option maxHeartbeats 2000000 in
theorem k_X10_split (l : Launch) (p1 : Int32) (p2 : Int32) (μ : pm_M) : pm_Ok l yX10_split cX10_split 4 (some .int) rm_X10_split [.ref 50, .int p1, .int p2] SH false SH 0 0 (fun r => (some (.int r.1), r.2)) μ (f_X10_split p1 p2 μ) := by
  refine pm_enter (own := RX10) (by decide) rfl (fun h => by cases h) (ls := [some (.ref 50), some (.int p1), some (.int p2), none]) rfl (fun _ => Nat.le_of_ble_eq_true rfl) ?_
  unfold f_X10_split
  refine pv_aload_n dX10_split_0 rfl ?_
  refine pv_getr dX10_split_1 fl_X10_13 sh_50 rfl ?_
  refine pv_bipush (v := 7) dX10_split_4 (by decide) ?_
  refine pv_iload_n dX10_split_6 rfl ?_
  refine pv_imul dX10_split_7 ?_
  refine pv_iload_n dX10_split_8 rfl ?_
  refine pv_iadd dX10_split_9 ?_
  refine pv_iald dX10_split_10 sh_52 ?_
  refine pv_let (fun x1 => ?_)
  refine pv_istore_n (ls' := [some (.ref 50), some (.int p1), some (.int p2), some (.int x1)]) dX10_split_11 (Nat.le_of_ble_eq_true rfl) rfl ?_
  refine pv_aload_n dX10_split_12 rfl ?_
  refine pv_getr dX10_split_13 fl_X10_13 sh_50 rfl ?_
  refine pv_bipush (v := 49) dX10_split_16 (by decide) ?_
  refine pv_iload_n dX10_split_18 rfl ?_
  refine pv_iadd dX10_split_19 ?_
  refine pv_iald dX10_split_20 sh_52 ?_
  refine pv_iload_n dX10_split_21 rfl ?_
  refine pv_icmp_eq (tgt := 27) dX10_split_22 (by decide) ?_ ?_
  · refine pv_iload_n dX10_split_27 rfl ?_
    refine pv_if_ge (tgt := 33) dX10_split_28 (by decide) ?_ ?_
    · refine pv_iload_n dX10_split_33 rfl ?_
      refine pv_if_ne (tgt := 39) dX10_split_34 (by decide) ?_ ?_
      · refine pv_aload_n dX10_split_39 rfl ?_
        refine pv_iload_n dX10_split_40 rfl ?_
        refine pv_iload_n dX10_split_41 rfl ?_
        refine pv_iload_n dX10_split_42 rfl ?_
        refine pv_iconst (v := 2) dX10_split_43 (by decide) ?_
        refine pv_idiv dX10_split_44 (by decide) ?_
        refine pv_cv_wv (rest := []) dX10_split_45 my_X10_lay vl_X10_101 (k_X10_lay l p1 p2 (x1 / (2 : Int32)) μ) sh_50 rfl rfl ⟨rfl, rfl, Nat.le_of_ble_eq_true rfl, Nat.le_of_ble_eq_true rfl⟩ ⟨Nat.zero_le _, Nat.zero_le _⟩ (Nat.le_of_ble_eq_true rfl) rfl (fun m2 => ?_)
        refine pv_iconst (v := 0) dX10_split_48 (by decide) ?_
        exact pv_iret dX10_split_49 rfl rfl rfl
      · refine pv_iconst (v := 5) dX10_split_37 (by decide) ?_
        exact pv_iret dX10_split_38 rfl rfl rfl
    · refine pv_iconst (v := 4) dX10_split_31 (by decide) ?_
      exact pv_iret dX10_split_32 rfl rfl rfl
  · refine pv_iconst (v := 3) dX10_split_25 (by decide) ?_
    exact pv_iret dX10_split_26 rfl rfl rfl
def f_X10_blow_b14 (p1 : Int32) (v14 : (Int32 × pm_M)) (T14 : ((Int32 × pm_M) → Option (Int32 × pm_M))) (E14 : (pm_M → Option (Int32 × pm_M))) : Option (Int32 × pm_M) :=
  (if (49 : Int32) ≤ v14.1 then (E14 v14.2) else pm_ck v14.1 64 ((pm_jn (fun (a2 : Int32) => pm_ck v14.1 64 (pm_let (pm_up v14.2 52 (Int32.toNatClampNeg v14.1) a2) (fun m3 => (T14 ((v14.1 + 1), m3))))) (fun j65 => (if 0 ≤ (v14.2 52 (Int32.toNatClampNeg v14.1)) then pm_ck v14.1 64 ((if (v14.2 52 (Int32.toNatClampNeg v14.1)) ≤ p1 then (j65 (0 : Int32)) else pm_ck v14.1 64 ((j65 ((v14.2 52 (Int32.toNatClampNeg v14.1)) - p1))))) else pm_ck v14.1 64 ((j65 (v14.2 52 (Int32.toNatClampNeg v14.1)))))))))
def f_X10_blow (p1 : Int32) (μ : pm_M) : Option (Int32 × pm_M) :=
  (f_X10_palesOf (9 : Int32) μ).bind (fun r1 => (if r1 = 0 then (some ((6 : Int32), μ)) else (pm_it (f_X10_blow_b14 p1) 5000 ((0 : Int32), μ) (fun e14 => (some ((0 : Int32), e14))))))
abbrev rm_X10_blow : Room := { frames := 2, cells := 0, slots := 0, locals := 45 }
set_option maxRecDepth 20000 in
set_option maxHeartbeats 2000000 in
theorem k_X10_blow (l : Launch) (p1 : Int32) (μ : pm_M) : pm_Ok l yX10_blow cX10_blow 3 (some .int) rm_X10_blow [.ref 50, .int p1] SH false SH 0 0 (fun r => (some (.int r.1), r.2)) μ (f_X10_blow p1 μ) := by
  refine pm_enter (own := RX10) (by decide) rfl (fun h => by cases h) (ls := [some (.ref 50), some (.int p1), none]) rfl (fun _ => Nat.le_of_ble_eq_true rfl) ?_
  unfold f_X10_blow
  refine pv_aload_n dX10_blow_0 rfl ?_
  refine pv_bipush (v := 9) dX10_blow_1 (by decide) ?_
  refine pv_cv_ri (rest := []) dX10_blow_3 my_X10_palesOf vl_X10_73 (k_X10_palesOf l (9 : Int32) μ) sh_50 rfl rfl ⟨rfl, rfl, Nat.le_of_ble_eq_true rfl, Nat.le_of_ble_eq_true rfl⟩ ⟨Nat.zero_le _, Nat.zero_le _⟩ (Nat.le_of_ble_eq_true rfl) rfl (fun r1 => ?_)
  refine pv_if_ne (tgt := 12) dX10_blow_6 (by decide) ?_ ?_
  · refine pv_iconst (v := 0) dX10_blow_12 (by decide) ?_
    refine pv_istore_n (ls' := [some (.ref 50), some (.int p1), some (.int (0 : Int32))]) dX10_blow_13 (Nat.le_of_ble_eq_true rfl) rfl ?_
    refine pv_loop (body := (f_X10_blow_b14 p1)) (pcE := 72) (lsf := fun v14 => [some (.ref 50), some (.int p1), some (.int v14.1)]) (mf := fun v14 => v14.2) (lsE := fun e14 => [none, none, none]) (mE := fun e14 => e14) (fun e14 => ?_) (fun E14 hE14 T14 hT14 v14 => ?_) 5000 ((0 : Int32), μ)
    · refine pv_iconst (v := 0) dX10_blow_72 (by decide) ?_
      exact pv_iret dX10_blow_73 rfl rfl rfl
    · unfold f_X10_blow_b14
      refine pv_iload_n dX10_blow_14 rfl ?_
      refine pv_bipush (v := 49) dX10_blow_15 (by decide) ?_
      refine pv_icmp_ge (tgt := 72) dX10_blow_17 (by decide) ?_ ?_
      · refine pv_mask (ls' := [none, none, none]) [false, false, false] rfl ?_
        exact hE14 v14.2
      · refine pv_aload_n dX10_blow_20 rfl ?_
        refine pv_getr dX10_blow_21 fl_X10_13 sh_50 rfl ?_
        refine pv_iload_n dX10_blow_24 rfl ?_
        refine pv_aload_n dX10_blow_25 rfl ?_
        refine pv_getr dX10_blow_26 fl_X10_13 sh_50 rfl ?_
        refine pv_iload_n dX10_blow_29 rfl ?_
        refine pv_iald dX10_blow_30 sh_52 ?_
        refine pv_jn (pcJ := 65) (lsJ := fun a2 => [some (.ref 50), some (.int p1), some (.int v14.1)]) (stJ := fun a2 => [.int a2, .int v14.1, .ref 52]) (mJ := fun a2 => v14.2) (fun a2 => ?_) (fun j65 hj65 => ?_)
        · refine pv_iast dX10_blow_65 sh_52 ?_
          refine pv_letM (fun m3 => ?_)
          refine pv_iinc (v := (v14.1 + 1)) (ls' := [some (.ref 50), some (.int p1), some (.int (v14.1 + 1))]) dX10_blow_66 rfl rfl (Nat.le_of_ble_eq_true rfl) rfl ?_
          refine pv_goto (tgt := 14) dX10_blow_69 (by decide) ?_
          exact hT14 ((v14.1 + 1), m3)
        · refine pv_if_ge (tgt := 43) dX10_blow_31 (by decide) ?_ ?_
          · refine pv_aload_n dX10_blow_43 rfl ?_
            refine pv_getr dX10_blow_44 fl_X10_13 sh_50 rfl ?_
            refine pv_iload_n dX10_blow_47 rfl ?_
            refine pv_iald dX10_blow_48 sh_52 ?_
            refine pv_iload_n dX10_blow_49 rfl ?_
            refine pv_icmp_le (tgt := 64) dX10_blow_50 (by decide) ?_ ?_
            · refine pv_iconst (v := 0) dX10_blow_64 (by decide) ?_
              exact hj65 (0 : Int32)
            · refine pv_aload_n dX10_blow_53 rfl ?_
              refine pv_getr dX10_blow_54 fl_X10_13 sh_50 rfl ?_
              refine pv_iload_n dX10_blow_57 rfl ?_
              refine pv_iald dX10_blow_58 sh_52 ?_
              refine pv_iload_n dX10_blow_59 rfl ?_
              refine pv_isub dX10_blow_60 ?_
              refine pv_goto (tgt := 65) dX10_blow_61 (by decide) ?_
              exact hj65 ((v14.2 52 (Int32.toNatClampNeg v14.1)) - p1)
          · refine pv_aload_n dX10_blow_34 rfl ?_
            refine pv_getr dX10_blow_35 fl_X10_13 sh_50 rfl ?_
            refine pv_iload_n dX10_blow_38 rfl ?_
            refine pv_iald dX10_blow_39 sh_52 ?_
            refine pv_goto (tgt := 65) dX10_blow_40 (by decide) ?_
            exact hj65 (v14.2 52 (Int32.toNatClampNeg v14.1))
  · refine pv_bipush (v := 6) dX10_blow_9 (by decide) ?_
    exact pv_iret dX10_blow_11 rfl rfl rfl
def f_X10_endDay_b28  (v28 : (Int32 × pm_M)) (T28 : ((Int32 × pm_M) → Option (Int32 × pm_M))) (E28 : (pm_M → Option (Int32 × pm_M))) : Option (Int32 × pm_M) :=
  (if (49 : Int32) ≤ v28.1 then (E28 v28.2) else pm_let (v28.1 / (7 : Int32)) (fun x2 => pm_let (pm_rem v28.1 (7 : Int32)) (fun x3 => (pm_jn (fun (a4 : pm_M) => (T28 ((v28.1 + 1), a4))) (fun j128 => (if x3 ≤ x2 then (j128 v28.2) else pm_ck v28.1 64 ((if (v28.2 52 (Int32.toNatClampNeg v28.1)) = 0 then pm_ck ((56 : Int32) + x2) 64 (pm_ck ((56 : Int32) + x3) 64 (pm_let ((v28.2 52 (Int32.toNatClampNeg ((56 : Int32) + x2))) - (v28.2 52 (Int32.toNatClampNeg ((56 : Int32) + x3)))) (fun x5 => (pm_jn (fun (a6 : Int32) => pm_ck ((56 : Int32) + x2) 64 (pm_ck ((56 : Int32) + x2) 64 (pm_let (pm_up v28.2 52 (Int32.toNatClampNeg ((56 : Int32) + x2)) ((v28.2 52 (Int32.toNatClampNeg ((56 : Int32) + x2))) - a6)) (fun m7 => pm_ck ((56 : Int32) + x3) 64 (pm_ck ((56 : Int32) + x3) 64 (pm_let (pm_up m7 52 (Int32.toNatClampNeg ((56 : Int32) + x3)) ((m7 52 (Int32.toNatClampNeg ((56 : Int32) + x3))) + a6)) (fun m8 => (j128 m8)))))))) (fun j98 => (if x5 ≤ 0 then (if 0 ≤ x5 then (j98 (0 : Int32)) else (j98 (-1 : Int32))) else (j98 (1 : Int32)))))))) else (j128 v28.2)))))))))
def f_X10_endDay (μ : pm_M) : Option (Int32 × pm_M) :=
  pm_ck (63 : Int32) 64 ((if (μ 52 (Int32.toNatClampNeg (63 : Int32))) = (99 : Int32) then (some ((7 : Int32), μ)) else pm_ck (63 : Int32) 64 (pm_ck (63 : Int32) 64 (pm_let (pm_up μ 52 (Int32.toNatClampNeg (63 : Int32)) ((μ 52 (Int32.toNatClampNeg (63 : Int32))) + (1 : Int32))) (fun m1 => (pm_it f_X10_endDay_b28 5000 ((0 : Int32), m1) (fun e28 => (some ((0 : Int32), e28)))))))))
abbrev rm_X10_endDay : Room := { frames := 0, cells := 0, slots := 0, locals := 0 }
set_option maxRecDepth 20000 in
set_option maxHeartbeats 2000000 in
theorem k_X10_endDay (l : Launch) (μ : pm_M) : pm_Ok l yX10_endDay cX10_endDay 6 (some .int) rm_X10_endDay [.ref 50] SH false SH 0 0 (fun r => (some (.int r.1), r.2)) μ (f_X10_endDay μ) := by
  refine pm_enter (own := RX10) (by decide) rfl (fun h => by cases h) (ls := [some (.ref 50), none, none, none, none, none]) rfl (fun _ => Nat.le_of_ble_eq_true rfl) ?_
  unfold f_X10_endDay
  refine pv_aload_n dX10_endDay_0 rfl ?_
  refine pv_getr dX10_endDay_1 fl_X10_13 sh_50 rfl ?_
  refine pv_bipush (v := 63) dX10_endDay_4 (by decide) ?_
  refine pv_iald dX10_endDay_6 sh_52 ?_
  refine pv_bipush (v := 99) dX10_endDay_7 (by decide) ?_
  refine pv_icmp_ne (tgt := 15) dX10_endDay_9 (by decide) ?_ ?_
  · refine pv_aload_n dX10_endDay_15 rfl ?_
    refine pv_getr dX10_endDay_16 fl_X10_13 sh_50 rfl ?_
    refine pv_bipush (v := 63) dX10_endDay_19 (by decide) ?_
    refine pv_dup2 dX10_endDay_21 rfl rfl ?_
    refine pv_iald dX10_endDay_22 sh_52 ?_
    refine pv_iconst (v := 1) dX10_endDay_23 (by decide) ?_
    refine pv_iadd dX10_endDay_24 ?_
    refine pv_iast dX10_endDay_25 sh_52 ?_
    refine pv_letM (fun m1 => ?_)
    refine pv_iconst (v := 0) dX10_endDay_26 (by decide) ?_
    refine pv_istore_n (ls' := [some (.ref 50), some (.int (0 : Int32)), none, none, none, none]) dX10_endDay_27 (Nat.le_of_ble_eq_true rfl) rfl ?_
    refine pv_loop (body := f_X10_endDay_b28) (pcE := 134) (lsf := fun v28 => [some (.ref 50), some (.int v28.1), none, none, none, none]) (mf := fun v28 => v28.2) (lsE := fun e28 => [none, none, none, none, none, none]) (mE := fun e28 => e28) (fun e28 => ?_) (fun E28 hE28 T28 hT28 v28 => ?_) 5000 ((0 : Int32), m1)
    · refine pv_iconst (v := 0) dX10_endDay_134 (by decide) ?_
      exact pv_iret dX10_endDay_135 rfl rfl rfl
    · unfold f_X10_endDay_b28
      refine pv_iload_n dX10_endDay_28 rfl ?_
      refine pv_bipush (v := 49) dX10_endDay_29 (by decide) ?_
      refine pv_icmp_ge (tgt := 134) dX10_endDay_31 (by decide) ?_ ?_
      · refine pv_mask (ls' := [none, none, none, none, none, none]) [false, false, false, false, false, false] rfl ?_
        exact hE28 v28.2
      · refine pv_iload_n dX10_endDay_34 rfl ?_
        refine pv_bipush (v := 7) dX10_endDay_35 (by decide) ?_
        refine pv_idiv dX10_endDay_37 (by decide) ?_
        refine pv_let (fun x2 => ?_)
        refine pv_istore_n (ls' := [some (.ref 50), some (.int v28.1), some (.int x2), none, none, none]) dX10_endDay_38 (Nat.le_of_ble_eq_true rfl) rfl ?_
        refine pv_iload_n dX10_endDay_39 rfl ?_
        refine pv_bipush (v := 7) dX10_endDay_40 (by decide) ?_
        refine pv_irem dX10_endDay_42 (by decide) ?_
        refine pv_let (fun x3 => ?_)
        refine pv_istore_n (ls' := [some (.ref 50), some (.int v28.1), some (.int x2), some (.int x3), none, none]) dX10_endDay_43 (Nat.le_of_ble_eq_true rfl) rfl ?_
        refine pv_iload_n dX10_endDay_44 rfl ?_
        refine pv_iload_n dX10_endDay_45 rfl ?_
        refine pv_jn (pcJ := 128) (lsJ := fun a4 => [some (.ref 50), some (.int v28.1), none, none, none, none]) (stJ := fun a4 => []) (mJ := fun a4 => a4) (fun a4 => ?_) (fun j128 hj128 => ?_)
        · refine pv_iinc (v := (v28.1 + 1)) (ls' := [some (.ref 50), some (.int (v28.1 + 1)), none, none, none, none]) dX10_endDay_128 rfl rfl (Nat.le_of_ble_eq_true rfl) rfl ?_
          refine pv_goto (tgt := 28) dX10_endDay_131 (by decide) ?_
          exact hT28 ((v28.1 + 1), a4)
        · refine pv_icmp_ge (tgt := 128) dX10_endDay_46 (by decide) ?_ ?_
          · refine pv_mask (ls' := [some (.ref 50), some (.int v28.1), none, none, none, none]) [true, true, false, false, false, false] rfl ?_
            exact hj128 v28.2
          · refine pv_aload_n dX10_endDay_49 rfl ?_
            refine pv_getr dX10_endDay_50 fl_X10_13 sh_50 rfl ?_
            refine pv_iload_n dX10_endDay_53 rfl ?_
            refine pv_iald dX10_endDay_54 sh_52 ?_
            refine pv_if_ne (tgt := 128) dX10_endDay_55 (by decide) ?_ ?_
            · refine pv_mask (ls' := [some (.ref 50), some (.int v28.1), none, none, none, none]) [true, true, false, false, false, false] rfl ?_
              exact hj128 v28.2
            · refine pv_aload_n dX10_endDay_58 rfl ?_
              refine pv_getr dX10_endDay_59 fl_X10_13 sh_50 rfl ?_
              refine pv_bipush (v := 56) dX10_endDay_62 (by decide) ?_
              refine pv_iload_n dX10_endDay_64 rfl ?_
              refine pv_iadd dX10_endDay_65 ?_
              refine pv_iald dX10_endDay_66 sh_52 ?_
              refine pv_aload_n dX10_endDay_67 rfl ?_
              refine pv_getr dX10_endDay_68 fl_X10_13 sh_50 rfl ?_
              refine pv_bipush (v := 56) dX10_endDay_71 (by decide) ?_
              refine pv_iload_n dX10_endDay_73 rfl ?_
              refine pv_iadd dX10_endDay_74 ?_
              refine pv_iald dX10_endDay_75 sh_52 ?_
              refine pv_isub dX10_endDay_76 ?_
              refine pv_let (fun x5 => ?_)
              refine pv_istore (ls' := [some (.ref 50), some (.int v28.1), some (.int x2), some (.int x3), some (.int x5), none]) dX10_endDay_77 (Nat.le_of_ble_eq_true rfl) rfl ?_
              refine pv_iload dX10_endDay_79 rfl ?_
              refine pv_jn (pcJ := 98) (lsJ := fun a6 => [some (.ref 50), some (.int v28.1), some (.int x2), some (.int x3), none, none]) (stJ := fun a6 => [.int a6]) (mJ := fun a6 => v28.2) (fun a6 => ?_) (fun j98 hj98 => ?_)
              · refine pv_istore (ls' := [some (.ref 50), some (.int v28.1), some (.int x2), some (.int x3), none, some (.int a6)]) dX10_endDay_98 (Nat.le_of_ble_eq_true rfl) rfl ?_
                refine pv_aload_n dX10_endDay_100 rfl ?_
                refine pv_getr dX10_endDay_101 fl_X10_13 sh_50 rfl ?_
                refine pv_bipush (v := 56) dX10_endDay_104 (by decide) ?_
                refine pv_iload_n dX10_endDay_106 rfl ?_
                refine pv_iadd dX10_endDay_107 ?_
                refine pv_dup2 dX10_endDay_108 rfl rfl ?_
                refine pv_iald dX10_endDay_109 sh_52 ?_
                refine pv_iload dX10_endDay_110 rfl ?_
                refine pv_isub dX10_endDay_112 ?_
                refine pv_iast dX10_endDay_113 sh_52 ?_
                refine pv_letM (fun m7 => ?_)
                refine pv_aload_n dX10_endDay_114 rfl ?_
                refine pv_getr dX10_endDay_115 fl_X10_13 sh_50 rfl ?_
                refine pv_bipush (v := 56) dX10_endDay_118 (by decide) ?_
                refine pv_iload_n dX10_endDay_120 rfl ?_
                refine pv_iadd dX10_endDay_121 ?_
                refine pv_dup2 dX10_endDay_122 rfl rfl ?_
                refine pv_iald dX10_endDay_123 sh_52 ?_
                refine pv_iload dX10_endDay_124 rfl ?_
                refine pv_iadd dX10_endDay_126 ?_
                refine pv_iast dX10_endDay_127 sh_52 ?_
                refine pv_letM (fun m8 => ?_)
                refine pv_mask (ls' := [some (.ref 50), some (.int v28.1), none, none, none, none]) [true, true, false, false, false, false] rfl ?_
                exact hj128 m8
              · refine pv_if_le (tgt := 88) dX10_endDay_81 (by decide) ?_ ?_
                · refine pv_iload dX10_endDay_88 rfl ?_
                  refine pv_if_ge (tgt := 97) dX10_endDay_90 (by decide) ?_ ?_
                  · refine pv_iconst (v := 0) dX10_endDay_97 (by decide) ?_
                    refine pv_mask (ls' := [some (.ref 50), some (.int v28.1), some (.int x2), some (.int x3), none, none]) [true, true, true, true, false, false] rfl ?_
                    exact hj98 (0 : Int32)
                  · refine pv_iconst (v := (-1)) dX10_endDay_93 (by decide) ?_
                    refine pv_goto (tgt := 98) dX10_endDay_94 (by decide) ?_
                    refine pv_mask (ls' := [some (.ref 50), some (.int v28.1), some (.int x2), some (.int x3), none, none]) [true, true, true, true, false, false] rfl ?_
                    exact hj98 (-1 : Int32)
                · refine pv_iconst (v := 1) dX10_endDay_84 (by decide) ?_
                  refine pv_goto (tgt := 98) dX10_endDay_85 (by decide) ?_
                  refine pv_mask (ls' := [some (.ref 50), some (.int v28.1), some (.int x2), some (.int x3), none, none]) [true, true, true, true, false, false] rfl ?_
                  exact hj98 (1 : Int32)
  · refine pv_bipush (v := 7) dX10_endDay_12 (by decide) ?_
    exact pv_iret dX10_endDay_14 rfl rfl rfl
def f_X10_oneAct (p1 : Int32) (μ : pm_M) : Option (Int32 × pm_M) :=
  pm_ck p1 60 (pm_let (μ 56 (Int32.toNatClampNeg p1)) (fun x1 => pm_ck (p1 + (1 : Int32)) 60 (pm_let (μ 56 (Int32.toNatClampNeg (p1 + (1 : Int32)))) (fun x2 => (if x1 = (119 : Int32) then (f_X10_blow (x2 - (48 : Int32)) μ).bind (fun r6 => (some (r6.1, r6.2))) else (if x2 = (42 : Int32) then (f_X10_mend (x1 - (65 : Int32)) μ).bind (fun r5 => (some (r5.1, r5.2))) else (if x2 = (33 : Int32) then pm_ck (p1 + (2 : Int32)) 60 ((f_X10_split (x1 - (65 : Int32)) ((μ 56 (Int32.toNatClampNeg (p1 + (2 : Int32)))) - (97 : Int32)) μ).bind (fun r4 => (some (r4.1, r4.2)))) else (f_X10_go (x1 - (65 : Int32)) (x2 - (97 : Int32)) μ).bind (fun r3 => (some (r3.1, r3.2))))))))))
abbrev rm_X10_oneAct : Room := { frames := 3, cells := 0, slots := 0, locals := 67 }
set_option maxRecDepth 20000 in
set_option maxHeartbeats 2000000 in
theorem k_X10_oneAct (l : Launch) (p1 : Int32) (μ : pm_M) : pm_Ok l yX10_oneAct cX10_oneAct 4 (some .int) rm_X10_oneAct [.ref 50, .int p1] SH false SH 0 0 (fun r => (some (.int r.1), r.2)) μ (f_X10_oneAct p1 μ) := by
  refine pm_enter (own := RX10) (by decide) rfl (fun h => by cases h) (ls := [some (.ref 50), some (.int p1), none, none]) rfl (fun _ => Nat.le_of_ble_eq_true rfl) ?_
  unfold f_X10_oneAct
  refine pv_aload_n dX10_oneAct_0 rfl ?_
  refine pv_getr dX10_oneAct_1 fl_X10_25 sh_50 rfl ?_
  refine pv_iload_n dX10_oneAct_4 rfl ?_
  refine pv_iald dX10_oneAct_5 sh_56 ?_
  refine pv_let (fun x1 => ?_)
  refine pv_istore_n (ls' := [some (.ref 50), some (.int p1), some (.int x1), none]) dX10_oneAct_6 (Nat.le_of_ble_eq_true rfl) rfl ?_
  refine pv_aload_n dX10_oneAct_7 rfl ?_
  refine pv_getr dX10_oneAct_8 fl_X10_25 sh_50 rfl ?_
  refine pv_iload_n dX10_oneAct_11 rfl ?_
  refine pv_iconst (v := 1) dX10_oneAct_12 (by decide) ?_
  refine pv_iadd dX10_oneAct_13 ?_
  refine pv_iald dX10_oneAct_14 sh_56 ?_
  refine pv_let (fun x2 => ?_)
  refine pv_istore_n (ls' := [some (.ref 50), some (.int p1), some (.int x1), some (.int x2)]) dX10_oneAct_15 (Nat.le_of_ble_eq_true rfl) rfl ?_
  refine pv_iload_n dX10_oneAct_16 rfl ?_
  refine pv_bipush (v := 119) dX10_oneAct_17 (by decide) ?_
  refine pv_icmp_ne (tgt := 31) dX10_oneAct_19 (by decide) ?_ ?_
  · refine pv_iload_n dX10_oneAct_31 rfl ?_
    refine pv_bipush (v := 42) dX10_oneAct_32 (by decide) ?_
    refine pv_icmp_ne (tgt := 48) dX10_oneAct_34 (by decide) ?_ ?_
    · refine pv_iload_n dX10_oneAct_48 rfl ?_
      refine pv_bipush (v := 33) dX10_oneAct_49 (by decide) ?_
      refine pv_icmp_ne (tgt := 76) dX10_oneAct_51 (by decide) ?_ ?_
      · refine pv_aload_n dX10_oneAct_76 rfl ?_
        refine pv_iload_n dX10_oneAct_77 rfl ?_
        refine pv_bipush (v := 65) dX10_oneAct_78 (by decide) ?_
        refine pv_isub dX10_oneAct_80 ?_
        refine pv_iload_n dX10_oneAct_81 rfl ?_
        refine pv_bipush (v := 97) dX10_oneAct_82 (by decide) ?_
        refine pv_isub dX10_oneAct_84 ?_
        refine pv_cv_wi (rest := []) dX10_oneAct_85 my_X10_go vl_X10_114 (k_X10_go l (x1 - (65 : Int32)) (x2 - (97 : Int32)) μ) sh_50 rfl rfl ⟨rfl, rfl, Nat.le_of_ble_eq_true rfl, Nat.le_of_ble_eq_true rfl⟩ ⟨Nat.zero_le _, Nat.zero_le _⟩ (Nat.le_of_ble_eq_true rfl) rfl (fun r3 => ?_)
        exact pv_iret dX10_oneAct_88 rfl rfl rfl
      · refine pv_aload_n dX10_oneAct_54 rfl ?_
        refine pv_iload_n dX10_oneAct_55 rfl ?_
        refine pv_bipush (v := 65) dX10_oneAct_56 (by decide) ?_
        refine pv_isub dX10_oneAct_58 ?_
        refine pv_aload_n dX10_oneAct_59 rfl ?_
        refine pv_getr dX10_oneAct_60 fl_X10_25 sh_50 rfl ?_
        refine pv_iload_n dX10_oneAct_63 rfl ?_
        refine pv_iconst (v := 2) dX10_oneAct_64 (by decide) ?_
        refine pv_iadd dX10_oneAct_65 ?_
        refine pv_iald dX10_oneAct_66 sh_56 ?_
        refine pv_bipush (v := 97) dX10_oneAct_67 (by decide) ?_
        refine pv_isub dX10_oneAct_69 ?_
        refine pv_cv_wi (rest := []) dX10_oneAct_70 my_X10_split vl_X10_111 (k_X10_split l (x1 - (65 : Int32)) ((μ 56 (Int32.toNatClampNeg (p1 + (2 : Int32)))) - (97 : Int32)) μ) sh_50 rfl rfl ⟨rfl, rfl, Nat.le_of_ble_eq_true rfl, Nat.le_of_ble_eq_true rfl⟩ ⟨Nat.zero_le _, Nat.zero_le _⟩ (Nat.le_of_ble_eq_true rfl) rfl (fun r4 => ?_)
        refine pv_goto (tgt := 88) dX10_oneAct_73 (by decide) ?_
        exact pv_iret dX10_oneAct_88 rfl rfl rfl
    · refine pv_aload_n dX10_oneAct_37 rfl ?_
      refine pv_iload_n dX10_oneAct_38 rfl ?_
      refine pv_bipush (v := 65) dX10_oneAct_39 (by decide) ?_
      refine pv_isub dX10_oneAct_41 ?_
      refine pv_cv_wi (rest := []) dX10_oneAct_42 my_X10_mend vl_X10_108 (k_X10_mend l (x1 - (65 : Int32)) μ) sh_50 rfl rfl ⟨rfl, rfl, Nat.le_of_ble_eq_true rfl, Nat.le_of_ble_eq_true rfl⟩ ⟨Nat.zero_le _, Nat.zero_le _⟩ (Nat.le_of_ble_eq_true rfl) rfl (fun r5 => ?_)
      refine pv_goto (tgt := 88) dX10_oneAct_45 (by decide) ?_
      exact pv_iret dX10_oneAct_88 rfl rfl rfl
  · refine pv_aload_n dX10_oneAct_22 rfl ?_
    refine pv_iload_n dX10_oneAct_23 rfl ?_
    refine pv_bipush (v := 48) dX10_oneAct_24 (by decide) ?_
    refine pv_isub dX10_oneAct_26 ?_
    refine pv_cv_wi (rest := []) dX10_oneAct_27 my_X10_blow vl_X10_105 (k_X10_blow l (x2 - (48 : Int32)) μ) sh_50 rfl rfl ⟨rfl, rfl, Nat.le_of_ble_eq_true rfl, Nat.le_of_ble_eq_true rfl⟩ ⟨Nat.zero_le _, Nat.zero_le _⟩ (Nat.le_of_ble_eq_true rfl) rfl (fun r6 => ?_)
    exact pv_iret dX10_oneAct_30 rfl rfl rfl
def f_X10_goWeeks_b21  (v21 : (Int32 × pm_M)) (T21 : ((Int32 × pm_M) → Option (Int32 × pm_M))) (E21 : (pm_M → Option (Int32 × pm_M))) : Option (Int32 × pm_M) :=
  (if (49 : Int32) ≤ v21.1 then (E21 v21.2) else pm_ck v21.1 64 (pm_ck v21.1 49 (pm_let (pm_up v21.2 57 (Int32.toNatClampNeg v21.1) (v21.2 52 (Int32.toNatClampNeg v21.1))) (fun m3 => (T21 ((v21.1 + 1), m3))))))
def f_X10_goWeeks_b125  (v125 : (Int32 × pm_M)) (T125 : ((Int32 × pm_M) → Option (Int32 × pm_M))) (E125 : (pm_M → Option (Int32 × pm_M))) : Option (Int32 × pm_M) :=
  (if (49 : Int32) ≤ v125.1 then (E125 v125.2) else (if 0 ≤ (v125.2 50 9) then (E125 v125.2) else (pm_jn (fun (a9 : pm_M) => (T125 ((v125.1 + 1), a9))) (fun j191 => (if (pm_rem v125.1 (7 : Int32)) ≤ (v125.1 / (7 : Int32)) then (j191 v125.2) else pm_ck v125.1 64 ((if (v125.2 52 (Int32.toNatClampNeg v125.1)) = 0 then pm_ck v125.1 49 ((if (v125.2 57 (Int32.toNatClampNeg v125.1)) ≤ 0 then (j191 v125.2) else pm_let (pm_up v125.2 50 9 (v125.2 50 13)) (fun m10 => pm_let (pm_up m10 50 10 (((10 : Int32) * (v125.1 / (7 : Int32))) + (pm_rem v125.1 (7 : Int32)))) (fun m11 => (j191 m11))))) else (j191 v125.2))))))))
def f_X10_goWeeks_b11  (v11 : (Int32 × pm_M)) (T11 : ((Int32 × pm_M) → Option (Int32 × pm_M))) (E11 : (pm_M → Option (Int32 × pm_M))) : Option (Int32 × pm_M) :=
  (if (v11.2 50 6) ≤ v11.1 then (E11 v11.2) else (pm_it f_X10_goWeeks_b21 5000 ((0 : Int32), v11.2) (fun e21 => pm_ck v11.1 60 ((pm_jn (fun (a4 : Int32) => (pm_jn (fun (a5 : (Int32 × pm_M)) => pm_let (pm_up a5.2 50 12 a5.1) (fun m6 => (pm_jn (fun (a7 : Int32) => pm_let (v11.1 + a7) (fun x8 => (if (m6 50 12) ≤ 0 then (pm_it f_X10_goWeeks_b125 5000 ((0 : Int32), m6) (fun e125 => pm_let (pm_up e125 50 13 ((e125 50 13) + (1 : Int32))) (fun m12 => (T11 (x8, m12))))) else (some ((m6 50 13), m6))))) (fun j109 => (if a4 = 0 then pm_ck (v11.1 + (1 : Int32)) 60 ((if (m6 56 (Int32.toNatClampNeg (v11.1 + (1 : Int32)))) = (33 : Int32) then (j109 (3 : Int32)) else (j109 (2 : Int32)))) else (j109 (1 : Int32))))))) (fun j79 => (if a4 = 0 then (f_X10_oneAct v11.1 e21).bind (fun r13 => (j79 (r13.1, r13.2))) else (f_X10_endDay e21).bind (fun r14 => (j79 (r14.1, r14.2))))))) (fun j61 => (if (e21 56 (Int32.toNatClampNeg v11.1)) = (46 : Int32) then (j61 (1 : Int32)) else (j61 (0 : Int32)))))))))
def f_X10_goWeeks (μ : pm_M) : Option (Int32 × pm_M) :=
  (f_X10_asNow μ).bind (fun m1 => pm_let (pm_up m1 50 13 (0 : Int32)) (fun m2 => (pm_it f_X10_goWeeks_b11 5000 ((0 : Int32), m2) (fun e11 => (some ((-6 : Int32), e11))))))
abbrev rm_X10_goWeeks : Room := { frames := 4, cells := 0, slots := 0, locals := 90 }
set_option maxRecDepth 20000 in
set_option maxHeartbeats 2000000 in
theorem k_X10_goWeeks (l : Launch) (μ : pm_M) : pm_Ok l yX10_goWeeks cX10_goWeeks 4 (some .int) rm_X10_goWeeks [.ref 50] SH false SH 0 0 (fun r => (some (.int r.1), r.2)) μ (f_X10_goWeeks μ) := by
  refine pm_enter (own := RX10) (by decide) rfl (fun h => by cases h) (ls := [some (.ref 50), none, none, none]) rfl (fun _ => Nat.le_of_ble_eq_true rfl) ?_
  unfold f_X10_goWeeks
  refine pv_aload_n dX10_goWeeks_0 rfl ?_
  refine pv_cv_wv (rest := []) dX10_goWeeks_1 my_X10_asNow vl_X10_70 (k_X10_asNow l μ) sh_50 rfl rfl ⟨rfl, rfl, Nat.le_of_ble_eq_true rfl, Nat.le_of_ble_eq_true rfl⟩ ⟨Nat.zero_le _, Nat.zero_le _⟩ (Nat.le_of_ble_eq_true rfl) rfl (fun m1 => ?_)
  refine pv_aload_n dX10_goWeeks_4 rfl ?_
  refine pv_iconst (v := 0) dX10_goWeeks_5 (by decide) ?_
  refine pv_puti dX10_goWeeks_6 fp_X10_117 sh_50 rfl rfl rfl ?_
  refine pv_letM (fun m2 => ?_)
  refine pv_iconst (v := 0) dX10_goWeeks_9 (by decide) ?_
  refine pv_istore_n (ls' := [some (.ref 50), some (.int (0 : Int32)), none, none]) dX10_goWeeks_10 (Nat.le_of_ble_eq_true rfl) rfl ?_
  refine pv_loop (body := f_X10_goWeeks_b11) (pcE := 210) (lsf := fun v11 => [some (.ref 50), some (.int v11.1), none, none]) (mf := fun v11 => v11.2) (lsE := fun e11 => [none, none, none, none]) (mE := fun e11 => e11) (fun e11 => ?_) (fun E11 hE11 T11 hT11 v11 => ?_) 5000 ((0 : Int32), m2)
  · refine pv_bipush (v := (-6)) dX10_goWeeks_210 (by decide) ?_
    exact pv_iret dX10_goWeeks_212 rfl rfl rfl
  · unfold f_X10_goWeeks_b11
    refine pv_iload_n dX10_goWeeks_11 rfl ?_
    refine pv_aload_n dX10_goWeeks_12 rfl ?_
    refine pv_geti dX10_goWeeks_13 fl_X10_81 sh_50 rfl ?_
    refine pv_icmp_ge (tgt := 210) dX10_goWeeks_16 (by decide) ?_ ?_
    · refine pv_mask (ls' := [none, none, none, none]) [false, false, false, false] rfl ?_
      exact hE11 v11.2
    · refine pv_iconst (v := 0) dX10_goWeeks_19 (by decide) ?_
      refine pv_istore_n (ls' := [some (.ref 50), some (.int v11.1), some (.int (0 : Int32)), none]) dX10_goWeeks_20 (Nat.le_of_ble_eq_true rfl) rfl ?_
      refine pv_loop (body := f_X10_goWeeks_b21) (pcE := 45) (lsf := fun v21 => [some (.ref 50), some (.int v11.1), some (.int v21.1), none]) (mf := fun v21 => v21.2) (lsE := fun e21 => [some (.ref 50), some (.int v11.1), none, none]) (mE := fun e21 => e21) (fun e21 => ?_) (fun E21 hE21 T21 hT21 v21 => ?_) 5000 ((0 : Int32), v11.2)
      · refine pv_aload_n dX10_goWeeks_45 rfl ?_
        refine pv_getr dX10_goWeeks_46 fl_X10_25 sh_50 rfl ?_
        refine pv_iload_n dX10_goWeeks_49 rfl ?_
        refine pv_iald dX10_goWeeks_50 sh_56 ?_
        refine pv_bipush (v := 46) dX10_goWeeks_51 (by decide) ?_
        refine pv_jn (pcJ := 61) (lsJ := fun a4 => [some (.ref 50), some (.int v11.1), none, none]) (stJ := fun a4 => [.int a4]) (mJ := fun a4 => e21) (fun a4 => ?_) (fun j61 hj61 => ?_)
        · refine pv_istore_n (ls' := [some (.ref 50), some (.int v11.1), some (.int a4), none]) dX10_goWeeks_61 (Nat.le_of_ble_eq_true rfl) rfl ?_
          refine pv_aload_n dX10_goWeeks_62 rfl ?_
          refine pv_iload_n dX10_goWeeks_63 rfl ?_
          refine pv_jn (pcJ := 79) (lsJ := fun a5 => [some (.ref 50), some (.int v11.1), some (.int a4), none]) (stJ := fun a5 => [.int a5.1, .ref 50]) (mJ := fun a5 => a5.2) (fun a5 => ?_) (fun j79 hj79 => ?_)
          · refine pv_puti dX10_goWeeks_79 fp_X10_126 sh_50 rfl rfl rfl ?_
            refine pv_letM (fun m6 => ?_)
            refine pv_iload_n dX10_goWeeks_82 rfl ?_
            refine pv_iload_n dX10_goWeeks_83 rfl ?_
            refine pv_jn (pcJ := 109) (lsJ := fun a7 => [some (.ref 50), none, none, none]) (stJ := fun a7 => [.int a7, .int v11.1]) (mJ := fun a7 => m6) (fun a7 => ?_) (fun j109 hj109 => ?_)
            · refine pv_iadd dX10_goWeeks_109 ?_
              refine pv_let (fun x8 => ?_)
              refine pv_istore_n (ls' := [some (.ref 50), some (.int x8), none, none]) dX10_goWeeks_110 (Nat.le_of_ble_eq_true rfl) rfl ?_
              refine pv_aload_n dX10_goWeeks_111 rfl ?_
              refine pv_geti dX10_goWeeks_112 fl_X10_126 sh_50 rfl ?_
              refine pv_if_le (tgt := 123) dX10_goWeeks_115 (by decide) ?_ ?_
              · refine pv_iconst (v := 0) dX10_goWeeks_123 (by decide) ?_
                refine pv_istore_n (ls' := [some (.ref 50), some (.int x8), none, some (.int (0 : Int32))]) dX10_goWeeks_124 (Nat.le_of_ble_eq_true rfl) rfl ?_
                refine pv_loop (body := f_X10_goWeeks_b125) (pcE := 197) (lsf := fun v125 => [some (.ref 50), some (.int x8), none, some (.int v125.1)]) (mf := fun v125 => v125.2) (lsE := fun e125 => [some (.ref 50), some (.int x8), none, none]) (mE := fun e125 => e125) (fun e125 => ?_) (fun E125 hE125 T125 hT125 v125 => ?_) 5000 ((0 : Int32), m6)
                · refine pv_aload_n dX10_goWeeks_197 rfl ?_
                  refine pv_dup dX10_goWeeks_198 rfl ?_
                  refine pv_geti dX10_goWeeks_199 fl_X10_117 sh_50 rfl ?_
                  refine pv_iconst (v := 1) dX10_goWeeks_202 (by decide) ?_
                  refine pv_iadd dX10_goWeeks_203 ?_
                  refine pv_puti dX10_goWeeks_204 fp_X10_117 sh_50 rfl rfl rfl ?_
                  refine pv_letM (fun m12 => ?_)
                  refine pv_goto (tgt := 11) dX10_goWeeks_207 (by decide) ?_
                  exact hT11 (x8, m12)
                · unfold f_X10_goWeeks_b125
                  refine pv_iload_n dX10_goWeeks_125 rfl ?_
                  refine pv_bipush (v := 49) dX10_goWeeks_126 (by decide) ?_
                  refine pv_icmp_ge (tgt := 197) dX10_goWeeks_128 (by decide) ?_ ?_
                  · refine pv_mask (ls' := [some (.ref 50), some (.int x8), none, none]) [true, true, false, false] rfl ?_
                    exact hE125 v125.2
                  · refine pv_aload_n dX10_goWeeks_131 rfl ?_
                    refine pv_geti dX10_goWeeks_132 fl_X10_95 sh_50 rfl ?_
                    refine pv_if_ge (tgt := 197) dX10_goWeeks_135 (by decide) ?_ ?_
                    · refine pv_mask (ls' := [some (.ref 50), some (.int x8), none, none]) [true, true, false, false] rfl ?_
                      exact hE125 v125.2
                    · refine pv_iload_n dX10_goWeeks_138 rfl ?_
                      refine pv_bipush (v := 7) dX10_goWeeks_139 (by decide) ?_
                      refine pv_idiv dX10_goWeeks_141 (by decide) ?_
                      refine pv_iload_n dX10_goWeeks_142 rfl ?_
                      refine pv_bipush (v := 7) dX10_goWeeks_143 (by decide) ?_
                      refine pv_irem dX10_goWeeks_145 (by decide) ?_
                      refine pv_jn (pcJ := 191) (lsJ := fun a9 => [some (.ref 50), some (.int x8), none, some (.int v125.1)]) (stJ := fun a9 => []) (mJ := fun a9 => a9) (fun a9 => ?_) (fun j191 hj191 => ?_)
                      · refine pv_iinc (v := (v125.1 + 1)) (ls' := [some (.ref 50), some (.int x8), none, some (.int (v125.1 + 1))]) dX10_goWeeks_191 rfl rfl (Nat.le_of_ble_eq_true rfl) rfl ?_
                        refine pv_goto (tgt := 125) dX10_goWeeks_194 (by decide) ?_
                        exact hT125 ((v125.1 + 1), a9)
                      · refine pv_icmp_ge (tgt := 191) dX10_goWeeks_146 (by decide) ?_ ?_
                        · exact hj191 v125.2
                        · refine pv_aload_n dX10_goWeeks_149 rfl ?_
                          refine pv_getr dX10_goWeeks_150 fl_X10_13 sh_50 rfl ?_
                          refine pv_iload_n dX10_goWeeks_153 rfl ?_
                          refine pv_iald dX10_goWeeks_154 sh_52 ?_
                          refine pv_if_ne (tgt := 191) dX10_goWeeks_155 (by decide) ?_ ?_
                          · exact hj191 v125.2
                          · refine pv_aload_n dX10_goWeeks_158 rfl ?_
                            refine pv_getr dX10_goWeeks_159 fl_X10_28 sh_50 rfl ?_
                            refine pv_iload_n dX10_goWeeks_162 rfl ?_
                            refine pv_iald dX10_goWeeks_163 sh_57 ?_
                            refine pv_if_le (tgt := 191) dX10_goWeeks_164 (by decide) ?_ ?_
                            · exact hj191 v125.2
                            · refine pv_aload_n dX10_goWeeks_167 rfl ?_
                              refine pv_aload_n dX10_goWeeks_168 rfl ?_
                              refine pv_geti dX10_goWeeks_169 fl_X10_117 sh_50 rfl ?_
                              refine pv_puti dX10_goWeeks_172 fp_X10_95 sh_50 rfl rfl rfl ?_
                              refine pv_letM (fun m10 => ?_)
                              refine pv_aload_n dX10_goWeeks_175 rfl ?_
                              refine pv_bipush (v := 10) dX10_goWeeks_176 (by decide) ?_
                              refine pv_iload_n dX10_goWeeks_178 rfl ?_
                              refine pv_bipush (v := 7) dX10_goWeeks_179 (by decide) ?_
                              refine pv_idiv dX10_goWeeks_181 (by decide) ?_
                              refine pv_imul dX10_goWeeks_182 ?_
                              refine pv_iload_n dX10_goWeeks_183 rfl ?_
                              refine pv_bipush (v := 7) dX10_goWeeks_184 (by decide) ?_
                              refine pv_irem dX10_goWeeks_186 (by decide) ?_
                              refine pv_iadd dX10_goWeeks_187 ?_
                              refine pv_puti dX10_goWeeks_188 fp_X10_98 sh_50 rfl rfl rfl ?_
                              refine pv_letM (fun m11 => ?_)
                              exact hj191 m11
              · refine pv_aload_n dX10_goWeeks_118 rfl ?_
                refine pv_geti dX10_goWeeks_119 fl_X10_117 sh_50 rfl ?_
                exact pv_iret dX10_goWeeks_122 rfl rfl rfl
            · refine pv_if_eq (tgt := 91) dX10_goWeeks_84 (by decide) ?_ ?_
              · refine pv_aload_n dX10_goWeeks_91 rfl ?_
                refine pv_getr dX10_goWeeks_92 fl_X10_25 sh_50 rfl ?_
                refine pv_iload_n dX10_goWeeks_95 rfl ?_
                refine pv_iconst (v := 1) dX10_goWeeks_96 (by decide) ?_
                refine pv_iadd dX10_goWeeks_97 ?_
                refine pv_iald dX10_goWeeks_98 sh_56 ?_
                refine pv_bipush (v := 33) dX10_goWeeks_99 (by decide) ?_
                refine pv_icmp_ne (tgt := 108) dX10_goWeeks_101 (by decide) ?_ ?_
                · refine pv_iconst (v := 2) dX10_goWeeks_108 (by decide) ?_
                  refine pv_mask (ls' := [some (.ref 50), none, none, none]) [true, false, false, false] rfl ?_
                  exact hj109 (2 : Int32)
                · refine pv_iconst (v := 3) dX10_goWeeks_104 (by decide) ?_
                  refine pv_goto (tgt := 109) dX10_goWeeks_105 (by decide) ?_
                  refine pv_mask (ls' := [some (.ref 50), none, none, none]) [true, false, false, false] rfl ?_
                  exact hj109 (3 : Int32)
              · refine pv_iconst (v := 1) dX10_goWeeks_87 (by decide) ?_
                refine pv_goto (tgt := 109) dX10_goWeeks_88 (by decide) ?_
                refine pv_mask (ls' := [some (.ref 50), none, none, none]) [true, false, false, false] rfl ?_
                exact hj109 (1 : Int32)
          · refine pv_if_eq (tgt := 74) dX10_goWeeks_64 (by decide) ?_ ?_
            · refine pv_aload_n dX10_goWeeks_74 rfl ?_
              refine pv_iload_n dX10_goWeeks_75 rfl ?_
              refine pv_cv_wi (rest := [.ref 50]) dX10_goWeeks_76 my_X10_oneAct vl_X10_123 (k_X10_oneAct l v11.1 e21) sh_50 rfl rfl ⟨rfl, rfl, Nat.le_of_ble_eq_true rfl, Nat.le_of_ble_eq_true rfl⟩ ⟨Nat.zero_le _, Nat.zero_le _⟩ (Nat.le_of_ble_eq_true rfl) rfl (fun r13 => ?_)
              exact hj79 (r13.1, r13.2)
            · refine pv_aload_n dX10_goWeeks_67 rfl ?_
              refine pv_cv_wi (rest := [.ref 50]) dX10_goWeeks_68 my_X10_endDay vl_X10_120 (k_X10_endDay l e21) sh_50 rfl rfl ⟨rfl, rfl, Nat.le_of_ble_eq_true rfl, Nat.le_of_ble_eq_true rfl⟩ ⟨Nat.zero_le _, Nat.zero_le _⟩ (Nat.le_of_ble_eq_true rfl) rfl (fun r14 => ?_)
              refine pv_goto (tgt := 79) dX10_goWeeks_71 (by decide) ?_
              exact hj79 (r14.1, r14.2)
        · refine pv_icmp_ne (tgt := 60) dX10_goWeeks_53 (by decide) ?_ ?_
          · refine pv_iconst (v := 0) dX10_goWeeks_60 (by decide) ?_
            exact hj61 (0 : Int32)
          · refine pv_iconst (v := 1) dX10_goWeeks_56 (by decide) ?_
            refine pv_goto (tgt := 61) dX10_goWeeks_57 (by decide) ?_
            exact hj61 (1 : Int32)
      · unfold f_X10_goWeeks_b21
        refine pv_iload_n dX10_goWeeks_21 rfl ?_
        refine pv_bipush (v := 49) dX10_goWeeks_22 (by decide) ?_
        refine pv_icmp_ge (tgt := 45) dX10_goWeeks_24 (by decide) ?_ ?_
        · refine pv_mask (ls' := [some (.ref 50), some (.int v11.1), none, none]) [true, true, false, false] rfl ?_
          exact hE21 v21.2
        · refine pv_aload_n dX10_goWeeks_27 rfl ?_
          refine pv_getr dX10_goWeeks_28 fl_X10_28 sh_50 rfl ?_
          refine pv_iload_n dX10_goWeeks_31 rfl ?_
          refine pv_aload_n dX10_goWeeks_32 rfl ?_
          refine pv_getr dX10_goWeeks_33 fl_X10_13 sh_50 rfl ?_
          refine pv_iload_n dX10_goWeeks_36 rfl ?_
          refine pv_iald dX10_goWeeks_37 sh_52 ?_
          refine pv_iast dX10_goWeeks_38 sh_57 ?_
          refine pv_letM (fun m3 => ?_)
          refine pv_iinc (v := (v21.1 + 1)) (ls' := [some (.ref 50), some (.int v11.1), some (.int (v21.1 + 1)), none]) dX10_goWeeks_39 rfl rfl (Nat.le_of_ble_eq_true rfl) rfl ?_
          refine pv_goto (tgt := 21) dX10_goWeeks_42 (by decide) ?_
          exact hT21 ((v21.1 + 1), m3)
def f_X10_judge (p1 : Int32) (μ : pm_M) : Option (Int32 × pm_M) :=
  (f_X10_in p1 (0 : Int32) (1 : Int32)).bind (fun r1 => (if r1 = 0 then (some ((-2 : Int32), μ)) else (f_X10_faultOf μ).bind (fun r2 => (if r2 < 0 then (f_X10_goWeeks μ).bind (fun r3 => (if r3.1 < 0 then (some (r3.1, r3.2)) else (if p1 = 0 then (some (r3.1, r3.2)) else (some ((r3.2 50 12), r3.2))))) else (some ((-5 : Int32), μ))))))
abbrev rm_X10_judge : Room := { frames := 5, cells := 0, slots := 0, locals := 113 }
set_option maxRecDepth 20000 in
set_option maxHeartbeats 2000000 in
theorem k_X10_judge (l : Launch) (p1 : Int32) (μ : pm_M) : pm_Ok l yX10_judge cX10_judge 3 (some .int) rm_X10_judge [.ref 50, .int p1] SH false SH 0 0 (fun r => (some (.int r.1), r.2)) μ (f_X10_judge p1 μ) := by
  refine pm_enter (own := RX10) (by decide) rfl (fun h => by cases h) (ls := [some (.ref 50), some (.int p1), none]) rfl (fun _ => Nat.le_of_ble_eq_true rfl) ?_
  unfold f_X10_judge
  refine pv_iload_n dX10_judge_0 rfl ?_
  refine pv_iconst (v := 0) dX10_judge_1 (by decide) ?_
  refine pv_iconst (v := 1) dX10_judge_2 (by decide) ?_
  refine pv_cs_ri (rest := []) dX10_judge_3 my_X10_in sl_X10_62 (k_X10_in l SH p1 (0 : Int32) (1 : Int32) μ) rfl ⟨rfl, rfl, Nat.le_of_ble_eq_true rfl, Nat.le_of_ble_eq_true rfl⟩ ⟨Nat.zero_le _, Nat.zero_le _⟩ (Nat.le_of_ble_eq_true rfl) rfl (fun r1 => ?_)
  refine pv_if_ne (tgt := 12) dX10_judge_6 (by decide) ?_ ?_
  · refine pv_aload_n dX10_judge_12 rfl ?_
    refine pv_cv_ri (rest := []) dX10_judge_13 my_X10_faultOf vl_X10_88 (k_X10_faultOf l μ) sh_50 rfl rfl ⟨rfl, rfl, Nat.le_of_ble_eq_true rfl, Nat.le_of_ble_eq_true rfl⟩ ⟨Nat.zero_le _, Nat.zero_le _⟩ (Nat.le_of_ble_eq_true rfl) rfl (fun r2 => ?_)
    refine pv_if_lt (tgt := 22) dX10_judge_16 (by decide) ?_ ?_
    · refine pv_aload_n dX10_judge_22 rfl ?_
      refine pv_cv_wi (rest := []) dX10_judge_23 my_X10_goWeeks vl_X10_129 (k_X10_goWeeks l μ) sh_50 rfl rfl ⟨rfl, rfl, Nat.le_of_ble_eq_true rfl, Nat.le_of_ble_eq_true rfl⟩ ⟨Nat.zero_le _, Nat.zero_le _⟩ (Nat.le_of_ble_eq_true rfl) rfl (fun r3 => ?_)
      refine pv_istore_n (ls' := [some (.ref 50), some (.int p1), some (.int r3.1)]) dX10_judge_26 (Nat.le_of_ble_eq_true rfl) rfl ?_
      refine pv_iload_n dX10_judge_27 rfl ?_
      refine pv_if_lt (tgt := 35) dX10_judge_28 (by decide) ?_ ?_
      · refine pv_iload_n dX10_judge_35 rfl ?_
        refine pv_goto (tgt := 43) dX10_judge_36 (by decide) ?_
        exact pv_iret dX10_judge_43 rfl rfl rfl
      · refine pv_iload_n dX10_judge_31 rfl ?_
        refine pv_if_ne (tgt := 39) dX10_judge_32 (by decide) ?_ ?_
        · refine pv_aload_n dX10_judge_39 rfl ?_
          refine pv_geti dX10_judge_40 fl_X10_126 sh_50 rfl ?_
          exact pv_iret dX10_judge_43 rfl rfl rfl
        · refine pv_iload_n dX10_judge_35 rfl ?_
          refine pv_goto (tgt := 43) dX10_judge_36 (by decide) ?_
          exact pv_iret dX10_judge_43 rfl rfl rfl
    · refine pv_bipush (v := (-5)) dX10_judge_19 (by decide) ?_
      exact pv_iret dX10_judge_21 rfl rfl rfl
  · refine pv_bipush (v := (-2)) dX10_judge_9 (by decide) ?_
    exact pv_iret dX10_judge_11 rfl rfl rfl
def f_X10_barOfWeeks (μ : pm_M) : Option (Int32 × pm_M) :=
  (f_X10_faultOf μ).bind (fun r1 => (if 0 ≤ r1 then (some ((-5 : Int32), μ)) else (f_X10_goWeeks μ).bind (fun r2 => (if r2.1 < 0 then (some ((0 : Int32), r2.2)) else (some ((-5 : Int32), r2.2))))))
abbrev rm_X10_barOfWeeks : Room := { frames := 5, cells := 0, slots := 0, locals := 113 }
set_option maxRecDepth 20000 in
set_option maxHeartbeats 2000000 in
theorem k_X10_barOfWeeks (l : Launch) (μ : pm_M) : pm_Ok l yX10_barOfWeeks cX10_barOfWeeks 1 (some .int) rm_X10_barOfWeeks [.ref 50] SH false SH 0 0 (fun r => (some (.int r.1), r.2)) μ (f_X10_barOfWeeks μ) := by
  refine pm_enter (own := RX10) (by decide) rfl (fun h => by cases h) (ls := [some (.ref 50)]) rfl (fun _ => Nat.le_of_ble_eq_true rfl) ?_
  unfold f_X10_barOfWeeks
  refine pv_aload_n dX10_barOfWeeks_0 rfl ?_
  refine pv_cv_ri (rest := []) dX10_barOfWeeks_1 my_X10_faultOf vl_X10_88 (k_X10_faultOf l μ) sh_50 rfl rfl ⟨rfl, rfl, Nat.le_of_ble_eq_true rfl, Nat.le_of_ble_eq_true rfl⟩ ⟨Nat.zero_le _, Nat.zero_le _⟩ (Nat.le_of_ble_eq_true rfl) rfl (fun r1 => ?_)
  refine pv_if_ge (tgt := 14) dX10_barOfWeeks_4 (by decide) ?_ ?_
  · refine pv_bipush (v := (-5)) dX10_barOfWeeks_14 (by decide) ?_
    refine pv_goto (tgt := 20) dX10_barOfWeeks_16 (by decide) ?_
    exact pv_iret dX10_barOfWeeks_20 rfl rfl rfl
  · refine pv_aload_n dX10_barOfWeeks_7 rfl ?_
    refine pv_cv_wi (rest := []) dX10_barOfWeeks_8 my_X10_goWeeks vl_X10_129 (k_X10_goWeeks l μ) sh_50 rfl rfl ⟨rfl, rfl, Nat.le_of_ble_eq_true rfl, Nat.le_of_ble_eq_true rfl⟩ ⟨Nat.zero_le _, Nat.zero_le _⟩ (Nat.le_of_ble_eq_true rfl) rfl (fun r2 => ?_)
    refine pv_if_lt (tgt := 19) dX10_barOfWeeks_11 (by decide) ?_ ?_
    · refine pv_iconst (v := 0) dX10_barOfWeeks_19 (by decide) ?_
      exact pv_iret dX10_barOfWeeks_20 rfl rfl rfl
    · refine pv_bipush (v := (-5)) dX10_barOfWeeks_14 (by decide) ?_
      refine pv_goto (tgt := 20) dX10_barOfWeeks_16 (by decide) ?_
      exact pv_iret dX10_barOfWeeks_20 rfl rfl rfl
def f_X10_done_b12  (v12 : (Int32 × pm_M)) (T12 : ((Int32 × pm_M) → Option (Int32 × pm_M))) (E12 : (pm_M → Option (Int32 × pm_M))) : Option (Int32 × pm_M) :=
  (if (64 : Int32) ≤ v12.1 then (E12 v12.2) else pm_ck v12.1 64 (pm_ck v12.1 64 (pm_let (pm_up v12.2 51 (Int32.toNatClampNeg v12.1) (v12.2 52 (Int32.toNatClampNeg v12.1))) (fun m2 => (T12 ((v12.1 + 1), m2))))))
def f_X10_done (μ : pm_M) : Option (Int32 × pm_M) :=
  (f_X10_barOfWeeks μ).bind (fun r1 => (if 0 ≤ r1.1 then (pm_it f_X10_done_b12 5000 ((0 : Int32), r1.2) (fun e12 => pm_let (pm_up e12 50 6 (0 : Int32)) (fun m3 => (some ((m3 50 13), m3))))) else (some ((-5 : Int32), r1.2))))
abbrev rm_X10_done : Room := { frames := 6, cells := 0, slots := 0, locals := 133 }
set_option maxRecDepth 20000 in
set_option maxHeartbeats 2000000 in
theorem k_X10_done (l : Launch) (μ : pm_M) : pm_Ok l yX10_done cX10_done 2 (some .int) rm_X10_done [.ref 50] SH false SH 0 0 (fun r => (some (.int r.1), r.2)) μ (f_X10_done μ) := by
  refine pm_enter (own := RX10) (by decide) rfl (fun h => by cases h) (ls := [some (.ref 50), none]) rfl (fun _ => Nat.le_of_ble_eq_true rfl) ?_
  unfold f_X10_done
  refine pv_aload_n dX10_done_0 rfl ?_
  refine pv_cv_wi (rest := []) dX10_done_1 my_X10_barOfWeeks vl_X10_132 (k_X10_barOfWeeks l μ) sh_50 rfl rfl ⟨rfl, rfl, Nat.le_of_ble_eq_true rfl, Nat.le_of_ble_eq_true rfl⟩ ⟨Nat.zero_le _, Nat.zero_le _⟩ (Nat.le_of_ble_eq_true rfl) rfl (fun r1 => ?_)
  refine pv_if_ge (tgt := 10) dX10_done_4 (by decide) ?_ ?_
  · refine pv_iconst (v := 0) dX10_done_10 (by decide) ?_
    refine pv_istore_n (ls' := [some (.ref 50), some (.int (0 : Int32))]) dX10_done_11 (Nat.le_of_ble_eq_true rfl) rfl ?_
    refine pv_loop (body := f_X10_done_b12) (pcE := 36) (lsf := fun v12 => [some (.ref 50), some (.int v12.1)]) (mf := fun v12 => v12.2) (lsE := fun e12 => [some (.ref 50), none]) (mE := fun e12 => e12) (fun e12 => ?_) (fun E12 hE12 T12 hT12 v12 => ?_) 5000 ((0 : Int32), r1.2)
    · refine pv_aload_n dX10_done_36 rfl ?_
      refine pv_iconst (v := 0) dX10_done_37 (by decide) ?_
      refine pv_puti dX10_done_38 fp_X10_81 sh_50 rfl rfl rfl ?_
      refine pv_letM (fun m3 => ?_)
      refine pv_aload_n dX10_done_41 rfl ?_
      refine pv_geti dX10_done_42 fl_X10_117 sh_50 rfl ?_
      exact pv_iret dX10_done_45 rfl rfl rfl
    · unfold f_X10_done_b12
      refine pv_iload_n dX10_done_12 rfl ?_
      refine pv_bipush (v := 64) dX10_done_13 (by decide) ?_
      refine pv_icmp_ge (tgt := 36) dX10_done_15 (by decide) ?_ ?_
      · refine pv_mask (ls' := [some (.ref 50), none]) [true, false] rfl ?_
        exact hE12 v12.2
      · refine pv_aload_n dX10_done_18 rfl ?_
        refine pv_getr dX10_done_19 fl_X10_7 sh_50 rfl ?_
        refine pv_iload_n dX10_done_22 rfl ?_
        refine pv_aload_n dX10_done_23 rfl ?_
        refine pv_getr dX10_done_24 fl_X10_13 sh_50 rfl ?_
        refine pv_iload_n dX10_done_27 rfl ?_
        refine pv_iald dX10_done_28 sh_52 ?_
        refine pv_iast dX10_done_29 sh_51 ?_
        refine pv_letM (fun m2 => ?_)
        refine pv_iinc (v := (v12.1 + 1)) (ls' := [some (.ref 50), some (.int (v12.1 + 1))]) dX10_done_30 rfl rfl (Nat.le_of_ble_eq_true rfl) rfl ?_
        refine pv_goto (tgt := 12) dX10_done_33 (by decide) ?_
        exact hT12 ((v12.1 + 1), m2)
  · refine pv_bipush (v := (-5)) dX10_done_7 (by decide) ?_
    exact pv_iret dX10_done_9 rfl rfl rfl
def f_X10_behind (p1 : Int32) (p2 : Int32) (μ : pm_M) : Option (Int32 × pm_M) :=
  (f_X10_isFarm p1).bind (fun r1 => (if r1 = 0 then (some ((-1 : Int32), μ)) else (f_X10_isFarm p2).bind (fun r2 => (if r2 = 0 then (some ((-1 : Int32), μ)) else (if p1 = p2 then (some ((-1 : Int32), μ)) else (f_X10_barOfWeeks μ).bind (fun r3 => (if 0 ≤ r3.1 then pm_ck (((7 : Int32) * p1) + p2) 64 ((some ((r3.2 52 (Int32.toNatClampNeg (((7 : Int32) * p1) + p2))), r3.2))) else (some ((-5 : Int32), r3.2)))))))))
abbrev rm_X10_behind : Room := { frames := 6, cells := 0, slots := 0, locals := 133 }
set_option maxRecDepth 20000 in
set_option maxHeartbeats 2000000 in
theorem k_X10_behind (l : Launch) (p1 : Int32) (p2 : Int32) (μ : pm_M) : pm_Ok l yX10_behind cX10_behind 3 (some .int) rm_X10_behind [.ref 50, .int p1, .int p2] SH false SH 0 0 (fun r => (some (.int r.1), r.2)) μ (f_X10_behind p1 p2 μ) := by
  refine pm_enter (own := RX10) (by decide) rfl (fun h => by cases h) (ls := [some (.ref 50), some (.int p1), some (.int p2)]) rfl (fun _ => Nat.le_of_ble_eq_true rfl) ?_
  unfold f_X10_behind
  refine pv_iload_n dX10_behind_0 rfl ?_
  refine pv_cs_ri (rest := []) dX10_behind_1 my_X10_isFarm sl_X10_66 (k_X10_isFarm l SH p1 μ) rfl ⟨rfl, rfl, Nat.le_of_ble_eq_true rfl, Nat.le_of_ble_eq_true rfl⟩ ⟨Nat.zero_le _, Nat.zero_le _⟩ (Nat.le_of_ble_eq_true rfl) rfl (fun r1 => ?_)
  refine pv_if_eq (tgt := 19) dX10_behind_4 (by decide) ?_ ?_
  · refine pv_iconst (v := (-1)) dX10_behind_19 (by decide) ?_
    exact pv_iret dX10_behind_20 rfl rfl rfl
  · refine pv_iload_n dX10_behind_7 rfl ?_
    refine pv_cs_ri (rest := []) dX10_behind_8 my_X10_isFarm sl_X10_66 (k_X10_isFarm l SH p2 μ) rfl ⟨rfl, rfl, Nat.le_of_ble_eq_true rfl, Nat.le_of_ble_eq_true rfl⟩ ⟨Nat.zero_le _, Nat.zero_le _⟩ (Nat.le_of_ble_eq_true rfl) rfl (fun r2 => ?_)
    refine pv_if_eq (tgt := 19) dX10_behind_11 (by decide) ?_ ?_
    · refine pv_iconst (v := (-1)) dX10_behind_19 (by decide) ?_
      exact pv_iret dX10_behind_20 rfl rfl rfl
    · refine pv_iload_n dX10_behind_14 rfl ?_
      refine pv_iload_n dX10_behind_15 rfl ?_
      refine pv_icmp_ne (tgt := 21) dX10_behind_16 (by decide) ?_ ?_
      · refine pv_aload_n dX10_behind_21 rfl ?_
        refine pv_cv_wi (rest := []) dX10_behind_22 my_X10_barOfWeeks vl_X10_132 (k_X10_barOfWeeks l μ) sh_50 rfl rfl ⟨rfl, rfl, Nat.le_of_ble_eq_true rfl, Nat.le_of_ble_eq_true rfl⟩ ⟨Nat.zero_le _, Nat.zero_le _⟩ (Nat.le_of_ble_eq_true rfl) rfl (fun r3 => ?_)
        refine pv_if_ge (tgt := 33) dX10_behind_25 (by decide) ?_ ?_
        · refine pv_aload_n dX10_behind_33 rfl ?_
          refine pv_getr dX10_behind_34 fl_X10_13 sh_50 rfl ?_
          refine pv_bipush (v := 7) dX10_behind_37 (by decide) ?_
          refine pv_iload_n dX10_behind_39 rfl ?_
          refine pv_imul dX10_behind_40 ?_
          refine pv_iload_n dX10_behind_41 rfl ?_
          refine pv_iadd dX10_behind_42 ?_
          refine pv_iald dX10_behind_43 sh_52 ?_
          exact pv_iret dX10_behind_44 rfl rfl rfl
        · refine pv_bipush (v := (-5)) dX10_behind_28 (by decide) ?_
          refine pv_goto (tgt := 44) dX10_behind_30 (by decide) ?_
          exact pv_iret dX10_behind_44 rfl rfl rfl
      · refine pv_iconst (v := (-1)) dX10_behind_19 (by decide) ?_
        exact pv_iret dX10_behind_20 rfl rfl rfl
def f_X10_goes (p1 : Int32) (p2 : Int32) (μ : pm_M) : Option (Int32 × pm_M) :=
  (f_X10_isFarm p1).bind (fun r1 => (if r1 = 0 then (some ((-1 : Int32), μ)) else (f_X10_in p2 (0 : Int32) (1 : Int32)).bind (fun r2 => (if r2 = 0 then (some ((-2 : Int32), μ)) else (f_X10_barOfWeeks μ).bind (fun r3 => (if 0 ≤ r3.1 then pm_ck (((49 : Int32) + ((7 : Int32) * p2)) + p1) 64 ((some ((r3.2 52 (Int32.toNatClampNeg (((49 : Int32) + ((7 : Int32) * p2)) + p1))), r3.2))) else (some ((-5 : Int32), r3.2))))))))
abbrev rm_X10_goes : Room := { frames := 6, cells := 0, slots := 0, locals := 133 }
set_option maxRecDepth 20000 in
set_option maxHeartbeats 2000000 in
theorem k_X10_goes (l : Launch) (p1 : Int32) (p2 : Int32) (μ : pm_M) : pm_Ok l yX10_goes cX10_goes 3 (some .int) rm_X10_goes [.ref 50, .int p1, .int p2] SH false SH 0 0 (fun r => (some (.int r.1), r.2)) μ (f_X10_goes p1 p2 μ) := by
  refine pm_enter (own := RX10) (by decide) rfl (fun h => by cases h) (ls := [some (.ref 50), some (.int p1), some (.int p2)]) rfl (fun _ => Nat.le_of_ble_eq_true rfl) ?_
  unfold f_X10_goes
  refine pv_iload_n dX10_goes_0 rfl ?_
  refine pv_cs_ri (rest := []) dX10_goes_1 my_X10_isFarm sl_X10_66 (k_X10_isFarm l SH p1 μ) rfl ⟨rfl, rfl, Nat.le_of_ble_eq_true rfl, Nat.le_of_ble_eq_true rfl⟩ ⟨Nat.zero_le _, Nat.zero_le _⟩ (Nat.le_of_ble_eq_true rfl) rfl (fun r1 => ?_)
  refine pv_if_ne (tgt := 9) dX10_goes_4 (by decide) ?_ ?_
  · refine pv_iload_n dX10_goes_9 rfl ?_
    refine pv_iconst (v := 0) dX10_goes_10 (by decide) ?_
    refine pv_iconst (v := 1) dX10_goes_11 (by decide) ?_
    refine pv_cs_ri (rest := []) dX10_goes_12 my_X10_in sl_X10_62 (k_X10_in l SH p2 (0 : Int32) (1 : Int32) μ) rfl ⟨rfl, rfl, Nat.le_of_ble_eq_true rfl, Nat.le_of_ble_eq_true rfl⟩ ⟨Nat.zero_le _, Nat.zero_le _⟩ (Nat.le_of_ble_eq_true rfl) rfl (fun r2 => ?_)
    refine pv_if_ne (tgt := 21) dX10_goes_15 (by decide) ?_ ?_
    · refine pv_aload_n dX10_goes_21 rfl ?_
      refine pv_cv_wi (rest := []) dX10_goes_22 my_X10_barOfWeeks vl_X10_132 (k_X10_barOfWeeks l μ) sh_50 rfl rfl ⟨rfl, rfl, Nat.le_of_ble_eq_true rfl, Nat.le_of_ble_eq_true rfl⟩ ⟨Nat.zero_le _, Nat.zero_le _⟩ (Nat.le_of_ble_eq_true rfl) rfl (fun r3 => ?_)
      refine pv_if_ge (tgt := 33) dX10_goes_25 (by decide) ?_ ?_
      · refine pv_aload_n dX10_goes_33 rfl ?_
        refine pv_getr dX10_goes_34 fl_X10_13 sh_50 rfl ?_
        refine pv_bipush (v := 49) dX10_goes_37 (by decide) ?_
        refine pv_bipush (v := 7) dX10_goes_39 (by decide) ?_
        refine pv_iload_n dX10_goes_41 rfl ?_
        refine pv_imul dX10_goes_42 ?_
        refine pv_iadd dX10_goes_43 ?_
        refine pv_iload_n dX10_goes_44 rfl ?_
        refine pv_iadd dX10_goes_45 ?_
        refine pv_iald dX10_goes_46 sh_52 ?_
        exact pv_iret dX10_goes_47 rfl rfl rfl
      · refine pv_bipush (v := (-5)) dX10_goes_28 (by decide) ?_
        refine pv_goto (tgt := 47) dX10_goes_30 (by decide) ?_
        exact pv_iret dX10_goes_47 rfl rfl rfl
    · refine pv_bipush (v := (-2)) dX10_goes_18 (by decide) ?_
      exact pv_iret dX10_goes_20 rfl rfl rfl
  · refine pv_iconst (v := (-1)) dX10_goes_7 (by decide) ?_
    exact pv_iret dX10_goes_8 rfl rfl rfl
def f_X10_then (p1 : Int32) (μ : pm_M) : Option (Int32 × pm_M) :=
  (f_X10_in p1 (0 : Int32) (5 : Int32)).bind (fun r1 => (if r1 = 0 then (some ((-2 : Int32), μ)) else (f_X10_barOfWeeks μ).bind (fun r2 => (if 0 ≤ r2.1 then (pm_sw p1 [0, 1, 2, 3] [(f_X10_palesOf (0 : Int32) r2.2).bind (fun r3 => (some (r3, r2.2))), (some ((r2.2 50 8), r2.2)), (f_X10_away r2.2).bind (fun r4 => (some (r4, r2.2))), pm_ck (63 : Int32) 64 ((some ((r2.2 52 (Int32.toNatClampNeg (63 : Int32))), r2.2)))] ((if p1 = (4 : Int32) then (some ((r2.2 50 9), r2.2)) else (some ((r2.2 50 10), r2.2))))) else (some ((-5 : Int32), r2.2))))))
abbrev rm_X10_then : Room := { frames := 6, cells := 0, slots := 0, locals := 133 }
set_option maxRecDepth 20000 in
set_option maxHeartbeats 2000000 in
theorem k_X10_then (l : Launch) (p1 : Int32) (μ : pm_M) : pm_Ok l yX10_then cX10_then 2 (some .int) rm_X10_then [.ref 50, .int p1] SH false SH 0 0 (fun r => (some (.int r.1), r.2)) μ (f_X10_then p1 μ) := by
  refine pm_enter (own := RX10) (by decide) rfl (fun h => by cases h) (ls := [some (.ref 50), some (.int p1)]) rfl (fun _ => Nat.le_of_ble_eq_true rfl) ?_
  unfold f_X10_then
  refine pv_iload_n dX10_then_0 rfl ?_
  refine pv_iconst (v := 0) dX10_then_1 (by decide) ?_
  refine pv_iconst (v := 5) dX10_then_2 (by decide) ?_
  refine pv_cs_ri (rest := []) dX10_then_3 my_X10_in sl_X10_62 (k_X10_in l SH p1 (0 : Int32) (5 : Int32) μ) rfl ⟨rfl, rfl, Nat.le_of_ble_eq_true rfl, Nat.le_of_ble_eq_true rfl⟩ ⟨Nat.zero_le _, Nat.zero_le _⟩ (Nat.le_of_ble_eq_true rfl) rfl (fun r1 => ?_)
  refine pv_if_ne (tgt := 12) dX10_then_6 (by decide) ?_ ?_
  · refine pv_aload_n dX10_then_12 rfl ?_
    refine pv_cv_wi (rest := []) dX10_then_13 my_X10_barOfWeeks vl_X10_132 (k_X10_barOfWeeks l μ) sh_50 rfl rfl ⟨rfl, rfl, Nat.le_of_ble_eq_true rfl, Nat.le_of_ble_eq_true rfl⟩ ⟨Nat.zero_le _, Nat.zero_le _⟩ (Nat.le_of_ble_eq_true rfl) rfl (fun r2 => ?_)
    refine pv_if_ge (tgt := 22) dX10_then_16 (by decide) ?_ ?_
    · refine pv_iload_n dX10_then_22 rfl ?_
      refine pv_table (kys := [0, 1, 2, 3]) (ts := [52, 58, 63, 68]) (tD := 76) dX10_then_23 rfl (by decide) (by decide) (by decide) (by decide) ⟨?_, ?_, ?_, ?_, trivial⟩ ?_
      · refine pv_aload_n dX10_then_52 rfl ?_
        refine pv_iconst (v := 0) dX10_then_53 (by decide) ?_
        refine pv_cv_ri (rest := []) dX10_then_54 my_X10_palesOf vl_X10_73 (k_X10_palesOf l (0 : Int32) r2.2) sh_50 rfl rfl ⟨rfl, rfl, Nat.le_of_ble_eq_true rfl, Nat.le_of_ble_eq_true rfl⟩ ⟨Nat.zero_le _, Nat.zero_le _⟩ (Nat.le_of_ble_eq_true rfl) rfl (fun r3 => ?_)
        exact pv_iret dX10_then_57 rfl rfl rfl
      · refine pv_aload_n dX10_then_58 rfl ?_
        refine pv_geti dX10_then_59 fl_X10_92 sh_50 rfl ?_
        exact pv_iret dX10_then_62 rfl rfl rfl
      · refine pv_aload_n dX10_then_63 rfl ?_
        refine pv_cv_ri (rest := []) dX10_then_64 my_X10_away vl_X10_135 (k_X10_away l r2.2) sh_50 rfl rfl ⟨rfl, rfl, Nat.le_of_ble_eq_true rfl, Nat.le_of_ble_eq_true rfl⟩ ⟨Nat.zero_le _, Nat.zero_le _⟩ (Nat.le_of_ble_eq_true rfl) rfl (fun r4 => ?_)
        exact pv_iret dX10_then_67 rfl rfl rfl
      · refine pv_aload_n dX10_then_68 rfl ?_
        refine pv_getr dX10_then_69 fl_X10_13 sh_50 rfl ?_
        refine pv_bipush (v := 63) dX10_then_72 (by decide) ?_
        refine pv_iald dX10_then_74 sh_52 ?_
        exact pv_iret dX10_then_75 rfl rfl rfl
      · refine pv_iload_n dX10_then_76 rfl ?_
        refine pv_iconst (v := 4) dX10_then_77 (by decide) ?_
        refine pv_icmp_ne (tgt := 88) dX10_then_78 (by decide) ?_ ?_
        · refine pv_aload_n dX10_then_88 rfl ?_
          refine pv_geti dX10_then_89 fl_X10_98 sh_50 rfl ?_
          exact pv_iret dX10_then_92 rfl rfl rfl
        · refine pv_aload_n dX10_then_81 rfl ?_
          refine pv_geti dX10_then_82 fl_X10_95 sh_50 rfl ?_
          refine pv_goto (tgt := 92) dX10_then_85 (by decide) ?_
          exact pv_iret dX10_then_92 rfl rfl rfl
    · refine pv_bipush (v := (-5)) dX10_then_19 (by decide) ?_
      exact pv_iret dX10_then_21 rfl rfl rfl
  · refine pv_bipush (v := (-2)) dX10_then_9 (by decide) ?_
    exact pv_iret dX10_then_11 rfl rfl rfl
def f_X10_layApart_b2  (v2 : (Int32 × pm_M)) (T2 : ((Int32 × pm_M) → Option pm_M)) (E2 : (pm_M → Option pm_M)) : Option pm_M :=
  (if (49 : Int32) ≤ v2.1 then (E2 v2.2) else (pm_jn (fun (a1 : Int32) => pm_ck v2.1 49 (pm_let (pm_up v2.2 58 (Int32.toNatClampNeg v2.1) a1) (fun m2 => (T2 ((v2.1 + 1), m2))))) (fun j48 => (if (v2.1 / (7 : Int32)) = (pm_rem v2.1 (7 : Int32)) then (j48 (0 : Int32)) else pm_ck v2.1 49 ((if (v2.2 53 (Int32.toNatClampNeg v2.1)) ≤ 0 then (j48 (1000000 : Int32)) else pm_ck v2.1 49 ((j48 (v2.2 53 (Int32.toNatClampNeg v2.1))))))))))
def f_X10_layApart_b65 (v57 : (Int32 × pm_M)) (v65 : (Int32 × pm_M)) (T65 : ((Int32 × pm_M) → Option pm_M)) (E65 : (pm_M → Option pm_M)) : Option pm_M :=
  (if (49 : Int32) ≤ v65.1 then (E65 v65.2) else pm_let (((v65.1 / (7 : Int32)) * (7 : Int32)) + v57.1) (fun x3 => pm_ck x3 49 (pm_let (((7 : Int32) * v57.1) + (pm_rem v65.1 (7 : Int32))) (fun x4 => pm_ck x4 49 (pm_let ((v65.2 58 (Int32.toNatClampNeg x3)) + (v65.2 58 (Int32.toNatClampNeg x4))) (fun x5 => pm_ck v65.1 49 ((pm_jn (fun (a6 : Int32) => pm_ck v65.1 49 (pm_let (pm_up v65.2 58 (Int32.toNatClampNeg v65.1) a6) (fun m7 => (T65 ((v65.1 + 1), m7))))) (fun j126 => (if (v65.2 58 (Int32.toNatClampNeg v65.1)) ≤ x5 then pm_ck v65.1 49 ((j126 (v65.2 58 (Int32.toNatClampNeg v65.1)))) else (j126 x5)))))))))))
def f_X10_layApart_b57  (v57 : (Int32 × pm_M)) (T57 : ((Int32 × pm_M) → Option pm_M)) (E57 : (pm_M → Option pm_M)) : Option pm_M :=
  (if (7 : Int32) ≤ v57.1 then (E57 v57.2) else (pm_it (f_X10_layApart_b65 v57) 5000 ((0 : Int32), v57.2) (fun e65 => (T57 ((v57.1 + 1), e65)))))
def f_X10_layApart (μ : pm_M) : Option pm_M :=
  (pm_it f_X10_layApart_b2 5000 ((0 : Int32), μ) (fun e2 => (pm_it f_X10_layApart_b57 5000 ((0 : Int32), e2) (fun e57 => (some e57)))))
abbrev rm_X10_layApart : Room := { frames := 0, cells := 0, slots := 0, locals := 0 }
set_option maxRecDepth 20000 in
set_option maxHeartbeats 2000000 in
theorem k_X10_layApart (l : Launch) (μ : pm_M) : pm_Ok l yX10_layApart cX10_layApart 4 none rm_X10_layApart [.ref 50] SH false SH 0 0 (fun r => (none, r)) μ (f_X10_layApart μ) := by
  refine pm_enter (own := RX10) (by decide) rfl (fun h => by cases h) (ls := [some (.ref 50), none, none, none]) rfl (fun _ => Nat.le_of_ble_eq_true rfl) ?_
  unfold f_X10_layApart
  refine pv_iconst (v := 0) dX10_layApart_0 (by decide) ?_
  refine pv_istore_n (ls' := [some (.ref 50), some (.int (0 : Int32)), none, none]) dX10_layApart_1 (Nat.le_of_ble_eq_true rfl) rfl ?_
  refine pv_loop (body := f_X10_layApart_b2) (pcE := 55) (lsf := fun v2 => [some (.ref 50), some (.int v2.1), none, none]) (mf := fun v2 => v2.2) (lsE := fun e2 => [some (.ref 50), none, none, none]) (mE := fun e2 => e2) (fun e2 => ?_) (fun E2 hE2 T2 hT2 v2 => ?_) 5000 ((0 : Int32), μ)
  · refine pv_iconst (v := 0) dX10_layApart_55 (by decide) ?_
    refine pv_istore_n (ls' := [some (.ref 50), some (.int (0 : Int32)), none, none]) dX10_layApart_56 (Nat.le_of_ble_eq_true rfl) rfl ?_
    refine pv_loop (body := f_X10_layApart_b57) (pcE := 139) (lsf := fun v57 => [some (.ref 50), some (.int v57.1), none, none]) (mf := fun v57 => v57.2) (lsE := fun e57 => [none, none, none, none]) (mE := fun e57 => e57) (fun e57 => ?_) (fun E57 hE57 T57 hT57 v57 => ?_) 5000 ((0 : Int32), e2)
    · exact pv_vret dX10_layApart_139 rfl rfl
    · unfold f_X10_layApart_b57
      refine pv_iload_n dX10_layApart_57 rfl ?_
      refine pv_bipush (v := 7) dX10_layApart_58 (by decide) ?_
      refine pv_icmp_ge (tgt := 139) dX10_layApart_60 (by decide) ?_ ?_
      · refine pv_mask (ls' := [none, none, none, none]) [false, false, false, false] rfl ?_
        exact hE57 v57.2
      · refine pv_iconst (v := 0) dX10_layApart_63 (by decide) ?_
        refine pv_istore_n (ls' := [some (.ref 50), some (.int v57.1), some (.int (0 : Int32)), none]) dX10_layApart_64 (Nat.le_of_ble_eq_true rfl) rfl ?_
        refine pv_loop (body := (f_X10_layApart_b65 v57)) (pcE := 133) (lsf := fun v65 => [some (.ref 50), some (.int v57.1), some (.int v65.1), none]) (mf := fun v65 => v65.2) (lsE := fun e65 => [some (.ref 50), some (.int v57.1), none, none]) (mE := fun e65 => e65) (fun e65 => ?_) (fun E65 hE65 T65 hT65 v65 => ?_) 5000 ((0 : Int32), v57.2)
        · refine pv_iinc (v := (v57.1 + 1)) (ls' := [some (.ref 50), some (.int (v57.1 + 1)), none, none]) dX10_layApart_133 rfl rfl (Nat.le_of_ble_eq_true rfl) rfl ?_
          refine pv_goto (tgt := 57) dX10_layApart_136 (by decide) ?_
          exact hT57 ((v57.1 + 1), e65)
        · unfold f_X10_layApart_b65
          refine pv_iload_n dX10_layApart_65 rfl ?_
          refine pv_bipush (v := 49) dX10_layApart_66 (by decide) ?_
          refine pv_icmp_ge (tgt := 133) dX10_layApart_68 (by decide) ?_ ?_
          · refine pv_mask (ls' := [some (.ref 50), some (.int v57.1), none, none]) [true, true, false, false] rfl ?_
            exact hE65 v65.2
          · refine pv_aload_n dX10_layApart_71 rfl ?_
            refine pv_getr dX10_layApart_72 fl_X10_31 sh_50 rfl ?_
            refine pv_iload_n dX10_layApart_75 rfl ?_
            refine pv_bipush (v := 7) dX10_layApart_76 (by decide) ?_
            refine pv_idiv dX10_layApart_78 (by decide) ?_
            refine pv_bipush (v := 7) dX10_layApart_79 (by decide) ?_
            refine pv_imul dX10_layApart_81 ?_
            refine pv_iload_n dX10_layApart_82 rfl ?_
            refine pv_iadd dX10_layApart_83 ?_
            refine pv_let (fun x3 => ?_)
            refine pv_iald dX10_layApart_84 sh_58 ?_
            refine pv_aload_n dX10_layApart_85 rfl ?_
            refine pv_getr dX10_layApart_86 fl_X10_31 sh_50 rfl ?_
            refine pv_bipush (v := 7) dX10_layApart_89 (by decide) ?_
            refine pv_iload_n dX10_layApart_91 rfl ?_
            refine pv_imul dX10_layApart_92 ?_
            refine pv_iload_n dX10_layApart_93 rfl ?_
            refine pv_bipush (v := 7) dX10_layApart_94 (by decide) ?_
            refine pv_irem dX10_layApart_96 (by decide) ?_
            refine pv_iadd dX10_layApart_97 ?_
            refine pv_let (fun x4 => ?_)
            refine pv_iald dX10_layApart_98 sh_58 ?_
            refine pv_iadd dX10_layApart_99 ?_
            refine pv_let (fun x5 => ?_)
            refine pv_istore_n (ls' := [some (.ref 50), some (.int v57.1), some (.int v65.1), some (.int x5)]) dX10_layApart_100 (Nat.le_of_ble_eq_true rfl) rfl ?_
            refine pv_aload_n dX10_layApart_101 rfl ?_
            refine pv_getr dX10_layApart_102 fl_X10_31 sh_50 rfl ?_
            refine pv_iload_n dX10_layApart_105 rfl ?_
            refine pv_iload_n dX10_layApart_106 rfl ?_
            refine pv_aload_n dX10_layApart_107 rfl ?_
            refine pv_getr dX10_layApart_108 fl_X10_31 sh_50 rfl ?_
            refine pv_iload_n dX10_layApart_111 rfl ?_
            refine pv_iald dX10_layApart_112 sh_58 ?_
            refine pv_jn (pcJ := 126) (lsJ := fun a6 => [some (.ref 50), some (.int v57.1), some (.int v65.1), none]) (stJ := fun a6 => [.int a6, .int v65.1, .ref 58]) (mJ := fun a6 => v65.2) (fun a6 => ?_) (fun j126 hj126 => ?_)
            · refine pv_iast dX10_layApart_126 sh_58 ?_
              refine pv_letM (fun m7 => ?_)
              refine pv_iinc (v := (v65.1 + 1)) (ls' := [some (.ref 50), some (.int v57.1), some (.int (v65.1 + 1)), none]) dX10_layApart_127 rfl rfl (Nat.le_of_ble_eq_true rfl) rfl ?_
              refine pv_goto (tgt := 65) dX10_layApart_130 (by decide) ?_
              exact hT65 ((v65.1 + 1), m7)
            · refine pv_icmp_ge (tgt := 120) dX10_layApart_113 (by decide) ?_ ?_
              · refine pv_aload_n dX10_layApart_120 rfl ?_
                refine pv_getr dX10_layApart_121 fl_X10_31 sh_50 rfl ?_
                refine pv_iload_n dX10_layApart_124 rfl ?_
                refine pv_iald dX10_layApart_125 sh_58 ?_
                refine pv_mask (ls' := [some (.ref 50), some (.int v57.1), some (.int v65.1), none]) [true, true, true, false] rfl ?_
                exact hj126 (v65.2 58 (Int32.toNatClampNeg v65.1))
              · refine pv_iload_n dX10_layApart_116 rfl ?_
                refine pv_goto (tgt := 126) dX10_layApart_117 (by decide) ?_
                refine pv_mask (ls' := [some (.ref 50), some (.int v57.1), some (.int v65.1), none]) [true, true, true, false] rfl ?_
                exact hj126 x5
  · unfold f_X10_layApart_b2
    refine pv_iload_n dX10_layApart_2 rfl ?_
    refine pv_bipush (v := 49) dX10_layApart_3 (by decide) ?_
    refine pv_icmp_ge (tgt := 55) dX10_layApart_5 (by decide) ?_ ?_
    · refine pv_mask (ls' := [some (.ref 50), none, none, none]) [true, false, false, false] rfl ?_
      exact hE2 v2.2
    · refine pv_aload_n dX10_layApart_8 rfl ?_
      refine pv_getr dX10_layApart_9 fl_X10_31 sh_50 rfl ?_
      refine pv_iload_n dX10_layApart_12 rfl ?_
      refine pv_iload_n dX10_layApart_13 rfl ?_
      refine pv_bipush (v := 7) dX10_layApart_14 (by decide) ?_
      refine pv_idiv dX10_layApart_16 (by decide) ?_
      refine pv_iload_n dX10_layApart_17 rfl ?_
      refine pv_bipush (v := 7) dX10_layApart_18 (by decide) ?_
      refine pv_irem dX10_layApart_20 (by decide) ?_
      refine pv_jn (pcJ := 48) (lsJ := fun a1 => [some (.ref 50), some (.int v2.1), none, none]) (stJ := fun a1 => [.int a1, .int v2.1, .ref 58]) (mJ := fun a1 => v2.2) (fun a1 => ?_) (fun j48 hj48 => ?_)
      · refine pv_iast dX10_layApart_48 sh_58 ?_
        refine pv_letM (fun m2 => ?_)
        refine pv_iinc (v := (v2.1 + 1)) (ls' := [some (.ref 50), some (.int (v2.1 + 1)), none, none]) dX10_layApart_49 rfl rfl (Nat.le_of_ble_eq_true rfl) rfl ?_
        refine pv_goto (tgt := 2) dX10_layApart_52 (by decide) ?_
        exact hT2 ((v2.1 + 1), m2)
      · refine pv_icmp_ne (tgt := 28) dX10_layApart_21 (by decide) ?_ ?_
        · refine pv_aload_n dX10_layApart_28 rfl ?_
          refine pv_getr dX10_layApart_29 fl_X10_16 sh_50 rfl ?_
          refine pv_iload_n dX10_layApart_32 rfl ?_
          refine pv_iald dX10_layApart_33 sh_53 ?_
          refine pv_if_le (tgt := 46) dX10_layApart_34 (by decide) ?_ ?_
          · refine pv_ldc dX10_layApart_46 kc_X10_138 ?_
            exact hj48 (1000000 : Int32)
          · refine pv_aload_n dX10_layApart_37 rfl ?_
            refine pv_getr dX10_layApart_38 fl_X10_16 sh_50 rfl ?_
            refine pv_iload_n dX10_layApart_41 rfl ?_
            refine pv_iald dX10_layApart_42 sh_53 ?_
            refine pv_goto (tgt := 48) dX10_layApart_43 (by decide) ?_
            exact hj48 (v2.2 53 (Int32.toNatClampNeg v2.1))
        · refine pv_iconst (v := 0) dX10_layApart_24 (by decide) ?_
          refine pv_goto (tgt := 48) dX10_layApart_25 (by decide) ?_
          exact hj48 (0 : Int32)
def f_X10_round (p1 : Int32) (p2 : Int32) (μ : pm_M) : Option (Int32 × pm_M) :=
  (f_X10_isFarm p1).bind (fun r1 => (if r1 = 0 then (some ((-1 : Int32), μ)) else (f_X10_isFarm p2).bind (fun r2 => (if r2 = 0 then (some ((-1 : Int32), μ)) else (f_X10_layApart μ).bind (fun m3 => pm_ck (((7 : Int32) * p1) + p2) 49 ((if (1000000 : Int32) ≤ (m3 58 (Int32.toNatClampNeg (((7 : Int32) * p1) + p2))) then (some ((-6 : Int32), m3)) else pm_ck (((7 : Int32) * p1) + p2) 49 ((some ((m3 58 (Int32.toNatClampNeg (((7 : Int32) * p1) + p2))), m3))))))))))
abbrev rm_X10_round : Room := { frames := 2, cells := 0, slots := 0, locals := 42 }
set_option maxRecDepth 20000 in
set_option maxHeartbeats 2000000 in
theorem k_X10_round (l : Launch) (p1 : Int32) (p2 : Int32) (μ : pm_M) : pm_Ok l yX10_round cX10_round 3 (some .int) rm_X10_round [.ref 50, .int p1, .int p2] SH false SH 0 0 (fun r => (some (.int r.1), r.2)) μ (f_X10_round p1 p2 μ) := by
  refine pm_enter (own := RX10) (by decide) rfl (fun h => by cases h) (ls := [some (.ref 50), some (.int p1), some (.int p2)]) rfl (fun _ => Nat.le_of_ble_eq_true rfl) ?_
  unfold f_X10_round
  refine pv_iload_n dX10_round_0 rfl ?_
  refine pv_cs_ri (rest := []) dX10_round_1 my_X10_isFarm sl_X10_66 (k_X10_isFarm l SH p1 μ) rfl ⟨rfl, rfl, Nat.le_of_ble_eq_true rfl, Nat.le_of_ble_eq_true rfl⟩ ⟨Nat.zero_le _, Nat.zero_le _⟩ (Nat.le_of_ble_eq_true rfl) rfl (fun r1 => ?_)
  refine pv_if_eq (tgt := 14) dX10_round_4 (by decide) ?_ ?_
  · refine pv_iconst (v := (-1)) dX10_round_14 (by decide) ?_
    exact pv_iret dX10_round_15 rfl rfl rfl
  · refine pv_iload_n dX10_round_7 rfl ?_
    refine pv_cs_ri (rest := []) dX10_round_8 my_X10_isFarm sl_X10_66 (k_X10_isFarm l SH p2 μ) rfl ⟨rfl, rfl, Nat.le_of_ble_eq_true rfl, Nat.le_of_ble_eq_true rfl⟩ ⟨Nat.zero_le _, Nat.zero_le _⟩ (Nat.le_of_ble_eq_true rfl) rfl (fun r2 => ?_)
    refine pv_if_ne (tgt := 16) dX10_round_11 (by decide) ?_ ?_
    · refine pv_aload_n dX10_round_16 rfl ?_
      refine pv_cv_wv (rest := []) dX10_round_17 my_X10_layApart vl_X10_139 (k_X10_layApart l μ) sh_50 rfl rfl ⟨rfl, rfl, Nat.le_of_ble_eq_true rfl, Nat.le_of_ble_eq_true rfl⟩ ⟨Nat.zero_le _, Nat.zero_le _⟩ (Nat.le_of_ble_eq_true rfl) rfl (fun m3 => ?_)
      refine pv_aload_n dX10_round_20 rfl ?_
      refine pv_getr dX10_round_21 fl_X10_31 sh_50 rfl ?_
      refine pv_bipush (v := 7) dX10_round_24 (by decide) ?_
      refine pv_iload_n dX10_round_26 rfl ?_
      refine pv_imul dX10_round_27 ?_
      refine pv_iload_n dX10_round_28 rfl ?_
      refine pv_iadd dX10_round_29 ?_
      refine pv_iald dX10_round_30 sh_58 ?_
      refine pv_ldc dX10_round_31 kc_X10_138 ?_
      refine pv_icmp_ge (tgt := 50) dX10_round_33 (by decide) ?_ ?_
      · refine pv_bipush (v := (-6)) dX10_round_50 (by decide) ?_
        exact pv_iret dX10_round_52 rfl rfl rfl
      · refine pv_aload_n dX10_round_36 rfl ?_
        refine pv_getr dX10_round_37 fl_X10_31 sh_50 rfl ?_
        refine pv_bipush (v := 7) dX10_round_40 (by decide) ?_
        refine pv_iload_n dX10_round_42 rfl ?_
        refine pv_imul dX10_round_43 ?_
        refine pv_iload_n dX10_round_44 rfl ?_
        refine pv_iadd dX10_round_45 ?_
        refine pv_iald dX10_round_46 sh_58 ?_
        refine pv_goto (tgt := 52) dX10_round_47 (by decide) ?_
        exact pv_iret dX10_round_52 rfl rfl rfl
    · refine pv_iconst (v := (-1)) dX10_round_14 (by decide) ?_
      exact pv_iret dX10_round_15 rfl rfl rfl
