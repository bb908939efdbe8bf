def f_X3_size (μ : pm_M) : Option Int32 :=
  (some (μ 42 1))
abbrev rm_X3_size : Room := { frames := 0, cells := 0, slots := 0, locals := 0 }
set_option maxRecDepth 20000 in
set_option maxHeartbeats 2000000 in
theorem k_X3_size (l : Launch) (μ : pm_M) : pm_Ok l yX3_size cX3_size 1 (some .int) rm_X3_size [.ref 42] SH false SH 0 0 (fun r => (some (.int r), μ)) μ (f_X3_size μ) := by
  refine pm_enter (own := RX3) (by decide) rfl (fun h => by cases h) (ls := [some (.ref 42)]) rfl (fun _ => Nat.le_of_ble_eq_true rfl) ?_
  unfold f_X3_size
  refine pv_aload_n dX3_size_0 rfl ?_
  refine pv_geti dX3_size_1 fl_X3_15 sh_42 rfl ?_
  exact pv_iret dX3_size_4 rfl rfl rfl
def f_X3_clear (μ : pm_M) : Option pm_M :=
  pm_let (pm_up μ 42 1 (0 : Int32)) (fun m1 => (some m1))
abbrev rm_X3_clear : Room := { frames := 0, cells := 0, slots := 0, locals := 0 }
set_option maxRecDepth 20000 in
set_option maxHeartbeats 2000000 in
theorem k_X3_clear (l : Launch) (μ : pm_M) : pm_Ok l yX3_clear cX3_clear 1 none rm_X3_clear [.ref 42] SH false SH 0 0 (fun r => (none, r)) μ (f_X3_clear μ) := by
  refine pm_enter (own := RX3) (by decide) rfl (fun h => by cases h) (ls := [some (.ref 42)]) rfl (fun _ => Nat.le_of_ble_eq_true rfl) ?_
  unfold f_X3_clear
  refine pv_aload_n dX3_clear_0 rfl ?_
  refine pv_iconst (v := 0) dX3_clear_1 (by decide) ?_
  refine pv_puti dX3_clear_2 fp_X3_15 sh_42 rfl rfl rfl ?_
  refine pv_letM (fun m1 => ?_)
  exact pv_vret dX3_clear_5 rfl rfl
def f_X3_add (p1 : Int32) (μ : pm_M) : Option (Int32 × pm_M) :=
  (if (μ 42 1) < (60 : Int32) then pm_ck (μ 42 1) 60 (pm_let (pm_up μ 43 (Int32.toNatClampNeg (μ 42 1)) p1) (fun m1 => pm_let (pm_up m1 42 1 ((m1 42 1) + (1 : Int32))) (fun m2 => (some ((1 : Int32), m2))))) else (some ((0 : Int32), μ)))
abbrev rm_X3_add : Room := { frames := 0, cells := 0, slots := 0, locals := 0 }
set_option maxRecDepth 20000 in
set_option maxHeartbeats 2000000 in
theorem k_X3_add (l : Launch) (p1 : Int32) (μ : pm_M) : pm_Ok l yX3_add cX3_add 2 (some .boolean) rm_X3_add [.ref 42, .int p1] SH false SH 0 0 (fun r => (some (.int r.1), r.2)) μ (f_X3_add p1 μ) := by
  refine pm_enter (own := RX3) (by decide) rfl (fun h => by cases h) (ls := [some (.ref 42), some (.int p1)]) rfl (fun _ => Nat.le_of_ble_eq_true rfl) ?_
  unfold f_X3_add
  refine pv_aload_n dX3_add_0 rfl ?_
  refine pv_geti dX3_add_1 fl_X3_15 sh_42 rfl ?_
  refine pv_bipush (v := 60) dX3_add_4 (by decide) ?_
  refine pv_icmp_lt (tgt := 11) dX3_add_6 (by decide) ?_ ?_
  · refine pv_aload_n dX3_add_11 rfl ?_
    refine pv_getr dX3_add_12 fl_X3_9 sh_42 rfl ?_
    refine pv_aload_n dX3_add_15 rfl ?_
    refine pv_geti dX3_add_16 fl_X3_15 sh_42 rfl ?_
    refine pv_iload_n dX3_add_19 rfl ?_
    refine pv_iast dX3_add_20 sh_43 ?_
    refine pv_letM (fun m1 => ?_)
    refine pv_aload_n dX3_add_21 rfl ?_
    refine pv_dup dX3_add_22 rfl ?_
    refine pv_geti dX3_add_23 fl_X3_15 sh_42 rfl ?_
    refine pv_iconst (v := 1) dX3_add_26 (by decide) ?_
    refine pv_iadd dX3_add_27 ?_
    refine pv_puti dX3_add_28 fp_X3_15 sh_42 rfl rfl rfl ?_
    refine pv_letM (fun m2 => ?_)
    refine pv_iconst (v := 1) dX3_add_31 (by decide) ?_
    exact pv_iret dX3_add_32 rfl rfl rfl
  · refine pv_iconst (v := 0) dX3_add_9 (by decide) ?_
    exact pv_iret dX3_add_10 rfl rfl rfl
def f_X3_nextAfterStart (p0 : Int32) : Option Int32 :=
  (if p0 = (46 : Int32) then (some (0 : Int32)) else (if p0 = (119 : Int32) then (some (3 : Int32)) else (f_X9_isFarm (p0 - (65 : Int32))).bind (fun r1 => (if r1 = 0 then (some (4 : Int32)) else (some (1 : Int32))))))
abbrev rm_X3_nextAfterStart : Room := { frames := 1, cells := 0, slots := 0, locals := 20 }
set_option maxRecDepth 20000 in
set_option maxHeartbeats 2000000 in
theorem k_X3_nextAfterStart (l : Launch) (sh : pm_S) (p0 : Int32) (μ : pm_M) : pm_Ok l yX3_nextAfterStart cX3_nextAfterStart 1 (some .int) rm_X3_nextAfterStart [.int p0] sh false sh 0 0 (fun r => (some (.int r), μ)) μ (f_X3_nextAfterStart p0) := by
  refine pm_enter (own := RX3) (by decide) rfl (fun h => by cases h) (ls := [some (.int p0)]) rfl (fun _ => Nat.le_of_ble_eq_true rfl) ?_
  unfold f_X3_nextAfterStart
  refine pv_iload_n dX3_nextAfterStart_0 rfl ?_
  refine pv_bipush (v := 46) dX3_nextAfterStart_1 (by decide) ?_
  refine pv_icmp_ne (tgt := 8) dX3_nextAfterStart_3 (by decide) ?_ ?_
  · refine pv_iload_n dX3_nextAfterStart_8 rfl ?_
    refine pv_bipush (v := 119) dX3_nextAfterStart_9 (by decide) ?_
    refine pv_icmp_ne (tgt := 16) dX3_nextAfterStart_11 (by decide) ?_ ?_
    · refine pv_iload_n dX3_nextAfterStart_16 rfl ?_
      refine pv_bipush (v := 65) dX3_nextAfterStart_17 (by decide) ?_
      refine pv_isub dX3_nextAfterStart_19 ?_
      refine pv_cs_ri (rest := []) dX3_nextAfterStart_20 my_X9_isFarm sl_X3_27 (k_X9_isFarm l sh (p0 - (65 : Int32)) μ) rfl ⟨rfl, rfl, Nat.le_of_ble_eq_true rfl, Nat.le_of_ble_eq_true rfl⟩ ⟨Nat.zero_le _, Nat.zero_le _⟩ (Nat.le_of_ble_eq_true rfl) rfl (fun r1 => ?_)
      refine pv_if_eq (tgt := 30) dX3_nextAfterStart_23 (by decide) ?_ ?_
      · refine pv_iconst (v := 4) dX3_nextAfterStart_30 (by decide) ?_
        exact pv_iret dX3_nextAfterStart_31 rfl rfl rfl
      · refine pv_iconst (v := 1) dX3_nextAfterStart_26 (by decide) ?_
        refine pv_goto (tgt := 31) dX3_nextAfterStart_27 (by decide) ?_
        exact pv_iret dX3_nextAfterStart_31 rfl rfl rfl
    · refine pv_iconst (v := 3) dX3_nextAfterStart_14 (by decide) ?_
      exact pv_iret dX3_nextAfterStart_15 rfl rfl rfl
  · refine pv_iconst (v := 0) dX3_nextAfterStart_6 (by decide) ?_
    exact pv_iret dX3_nextAfterStart_7 rfl rfl rfl
def f_X3_nextAfter (p0 : Int32) (p1 : Int32) : Option Int32 :=
  (pm_sw p0 [0, 1, 2] [(f_X3_nextAfterStart p1).bind (fun r1 => (some r1)), (if p1 = (33 : Int32) then (some (2 : Int32)) else (if p1 = (42 : Int32) then (some (0 : Int32)) else (f_X9_isFarm (p1 - (97 : Int32))).bind (fun r2 => (if r2 = 0 then (some (4 : Int32)) else (some (0 : Int32)))))), (f_X9_isFarm (p1 - (97 : Int32))).bind (fun r3 => (if r3 = 0 then (some (4 : Int32)) else (some (0 : Int32))))] ((if p1 < (49 : Int32) then (some (4 : Int32)) else (if (57 : Int32) < p1 then (some (4 : Int32)) else (some (0 : Int32))))))
abbrev rm_X3_nextAfter : Room := { frames := 2, cells := 0, slots := 0, locals := 40 }
set_option maxRecDepth 20000 in
set_option maxHeartbeats 2000000 in
theorem k_X3_nextAfter (l : Launch) (sh : pm_S) (p0 : Int32) (p1 : Int32) (μ : pm_M) : pm_Ok l yX3_nextAfter cX3_nextAfter 2 (some .int) rm_X3_nextAfter [.int p0, .int p1] sh false sh 0 0 (fun r => (some (.int r), μ)) μ (f_X3_nextAfter p0 p1) := by
  refine pm_enter (own := RX3) (by decide) rfl (fun h => by cases h) (ls := [some (.int p0), some (.int p1)]) rfl (fun _ => Nat.le_of_ble_eq_true rfl) ?_
  unfold f_X3_nextAfter
  refine pv_iload_n dX3_nextAfter_0 rfl ?_
  refine pv_table (kys := [0, 1, 2]) (ts := [28, 33, 63]) (tD := 79) dX3_nextAfter_1 rfl (by decide) (by decide) (by decide) (by decide) ⟨?_, ?_, ?_, trivial⟩ ?_
  · refine pv_iload_n dX3_nextAfter_28 rfl ?_
    refine pv_cs_ri (rest := []) dX3_nextAfter_29 my_X3_nextAfterStart sl_X3_23 (k_X3_nextAfterStart l sh p1 μ) rfl ⟨rfl, rfl, Nat.le_of_ble_eq_true rfl, Nat.le_of_ble_eq_true rfl⟩ ⟨Nat.zero_le _, Nat.zero_le _⟩ (Nat.le_of_ble_eq_true rfl) rfl (fun r1 => ?_)
    exact pv_iret dX3_nextAfter_32 rfl rfl rfl
  · refine pv_iload_n dX3_nextAfter_33 rfl ?_
    refine pv_bipush (v := 33) dX3_nextAfter_34 (by decide) ?_
    refine pv_icmp_ne (tgt := 41) dX3_nextAfter_36 (by decide) ?_ ?_
    · refine pv_iload_n dX3_nextAfter_41 rfl ?_
      refine pv_bipush (v := 42) dX3_nextAfter_42 (by decide) ?_
      refine pv_icmp_eq (tgt := 57) dX3_nextAfter_44 (by decide) ?_ ?_
      · refine pv_iconst (v := 0) dX3_nextAfter_57 (by decide) ?_
        refine pv_goto (tgt := 62) dX3_nextAfter_58 (by decide) ?_
        exact pv_iret dX3_nextAfter_62 rfl rfl rfl
      · refine pv_iload_n dX3_nextAfter_47 rfl ?_
        refine pv_bipush (v := 97) dX3_nextAfter_48 (by decide) ?_
        refine pv_isub dX3_nextAfter_50 ?_
        refine pv_cs_ri (rest := []) dX3_nextAfter_51 my_X9_isFarm sl_X3_27 (k_X9_isFarm l sh (p1 - (97 : Int32)) μ) rfl ⟨rfl, rfl, Nat.le_of_ble_eq_true rfl, Nat.le_of_ble_eq_true rfl⟩ ⟨Nat.zero_le _, Nat.zero_le _⟩ (Nat.le_of_ble_eq_true rfl) rfl (fun r2 => ?_)
        refine pv_if_eq (tgt := 61) dX3_nextAfter_54 (by decide) ?_ ?_
        · refine pv_iconst (v := 4) dX3_nextAfter_61 (by decide) ?_
          exact pv_iret dX3_nextAfter_62 rfl rfl rfl
        · refine pv_iconst (v := 0) dX3_nextAfter_57 (by decide) ?_
          refine pv_goto (tgt := 62) dX3_nextAfter_58 (by decide) ?_
          exact pv_iret dX3_nextAfter_62 rfl rfl rfl
    · refine pv_iconst (v := 2) dX3_nextAfter_39 (by decide) ?_
      exact pv_iret dX3_nextAfter_40 rfl rfl rfl
  · refine pv_iload_n dX3_nextAfter_63 rfl ?_
    refine pv_bipush (v := 97) dX3_nextAfter_64 (by decide) ?_
    refine pv_isub dX3_nextAfter_66 ?_
    refine pv_cs_ri (rest := []) dX3_nextAfter_67 my_X9_isFarm sl_X3_27 (k_X9_isFarm l sh (p1 - (97 : Int32)) μ) rfl ⟨rfl, rfl, Nat.le_of_ble_eq_true rfl, Nat.le_of_ble_eq_true rfl⟩ ⟨Nat.zero_le _, Nat.zero_le _⟩ (Nat.le_of_ble_eq_true rfl) rfl (fun r3 => ?_)
    refine pv_if_eq (tgt := 77) dX3_nextAfter_70 (by decide) ?_ ?_
    · refine pv_iconst (v := 4) dX3_nextAfter_77 (by decide) ?_
      exact pv_iret dX3_nextAfter_78 rfl rfl rfl
    · refine pv_iconst (v := 0) dX3_nextAfter_73 (by decide) ?_
      refine pv_goto (tgt := 78) dX3_nextAfter_74 (by decide) ?_
      exact pv_iret dX3_nextAfter_78 rfl rfl rfl
  · refine pv_iload_n dX3_nextAfter_79 rfl ?_
    refine pv_bipush (v := 49) dX3_nextAfter_80 (by decide) ?_
    refine pv_icmp_lt (tgt := 95) dX3_nextAfter_82 (by decide) ?_ ?_
    · refine pv_iconst (v := 4) dX3_nextAfter_95 (by decide) ?_
      exact pv_iret dX3_nextAfter_96 rfl rfl rfl
    · refine pv_iload_n dX3_nextAfter_85 rfl ?_
      refine pv_bipush (v := 57) dX3_nextAfter_86 (by decide) ?_
      refine pv_icmp_gt (tgt := 95) dX3_nextAfter_88 (by decide) ?_ ?_
      · refine pv_iconst (v := 4) dX3_nextAfter_95 (by decide) ?_
        exact pv_iret dX3_nextAfter_96 rfl rfl rfl
      · refine pv_iconst (v := 0) dX3_nextAfter_91 (by decide) ?_
        refine pv_goto (tgt := 96) dX3_nextAfter_92 (by decide) ?_
        exact pv_iret dX3_nextAfter_96 rfl rfl rfl
def f_X3_faultPlace_b4 (μ : pm_M) (v4 : (Int32 × Int32)) (T4 : ((Int32 × Int32) → Option Int32)) (E4 : (Int32 → Option Int32)) : Option Int32 :=
  (if (μ 42 1) ≤ v4.2 then (E4 v4.1) else pm_ck v4.2 60 ((f_X3_nextAfter v4.1 (μ 43 (Int32.toNatClampNeg v4.2))).bind (fun r1 => (if r1 = (4 : Int32) then (some v4.2) else (T4 (r1, (v4.2 + 1)))))))
def f_X3_faultPlace (μ : pm_M) : Option Int32 :=
  (pm_it (f_X3_faultPlace_b4 μ) 5000 ((0 : Int32), (0 : Int32)) (fun e4 => (if e4 = 0 then (some (-6 : Int32)) else (some (μ 42 1)))))
abbrev rm_X3_faultPlace : Room := { frames := 3, cells := 0, slots := 0, locals := 61 }
set_option maxRecDepth 20000 in
set_option maxHeartbeats 2000000 in
theorem k_X3_faultPlace (l : Launch) (μ : pm_M) : pm_Ok l yX3_faultPlace cX3_faultPlace 3 (some .int) rm_X3_faultPlace [.ref 42] SH false SH 0 0 (fun r => (some (.int r), μ)) μ (f_X3_faultPlace μ) := by
  refine pm_enter (own := RX3) (by decide) rfl (fun h => by cases h) (ls := [some (.ref 42), none, none]) rfl (fun _ => Nat.le_of_ble_eq_true rfl) ?_
  unfold f_X3_faultPlace
  refine pv_iconst (v := 0) dX3_faultPlace_0 (by decide) ?_
  refine pv_istore_n (ls' := [some (.ref 42), some (.int (0 : Int32)), none]) dX3_faultPlace_1 (Nat.le_of_ble_eq_true rfl) rfl ?_
  refine pv_iconst (v := 0) dX3_faultPlace_2 (by decide) ?_
  refine pv_istore_n (ls' := [some (.ref 42), some (.int (0 : Int32)), some (.int (0 : Int32))]) dX3_faultPlace_3 (Nat.le_of_ble_eq_true rfl) rfl ?_
  refine pv_loop (body := (f_X3_faultPlace_b4 μ)) (pcE := 36) (lsf := fun v4 => [some (.ref 42), some (.int v4.1), some (.int v4.2)]) (mf := fun v4 => μ) (lsE := fun e4 => [some (.ref 42), some (.int e4), none]) (mE := fun e4 => μ) (fun e4 => ?_) (fun E4 hE4 T4 hT4 v4 => ?_) 5000 ((0 : Int32), (0 : Int32))
  · refine pv_iload_n dX3_faultPlace_36 rfl ?_
    refine pv_if_ne (tgt := 45) dX3_faultPlace_37 (by decide) ?_ ?_
    · refine pv_aload_n dX3_faultPlace_45 rfl ?_
      refine pv_geti dX3_faultPlace_46 fl_X3_15 sh_42 rfl ?_
      exact pv_iret dX3_faultPlace_49 rfl rfl rfl
    · refine pv_bipush (v := (-6)) dX3_faultPlace_40 (by decide) ?_
      refine pv_goto (tgt := 49) dX3_faultPlace_42 (by decide) ?_
      exact pv_iret dX3_faultPlace_49 rfl rfl rfl
  · unfold f_X3_faultPlace_b4
    refine pv_iload_n dX3_faultPlace_4 rfl ?_
    refine pv_aload_n dX3_faultPlace_5 rfl ?_
    refine pv_geti dX3_faultPlace_6 fl_X3_15 sh_42 rfl ?_
    refine pv_icmp_ge (tgt := 36) dX3_faultPlace_9 (by decide) ?_ ?_
    · refine pv_mask (ls' := [some (.ref 42), some (.int v4.1), none]) [true, true, false] rfl ?_
      exact hE4 v4.1
    · refine pv_iload_n dX3_faultPlace_12 rfl ?_
      refine pv_aload_n dX3_faultPlace_13 rfl ?_
      refine pv_getr dX3_faultPlace_14 fl_X3_9 sh_42 rfl ?_
      refine pv_iload_n dX3_faultPlace_17 rfl ?_
      refine pv_iald dX3_faultPlace_18 sh_43 ?_
      refine pv_cs_ri (rest := []) dX3_faultPlace_19 my_X3_nextAfter sl_X3_19 (k_X3_nextAfter l SH v4.1 (μ 43 (Int32.toNatClampNeg v4.2)) μ) rfl ⟨rfl, rfl, Nat.le_of_ble_eq_true rfl, Nat.le_of_ble_eq_true rfl⟩ ⟨Nat.zero_le _, Nat.zero_le _⟩ (Nat.le_of_ble_eq_true rfl) rfl (fun r1 => ?_)
      refine pv_istore_n (ls' := [some (.ref 42), some (.int r1), some (.int v4.2)]) dX3_faultPlace_22 (Nat.le_of_ble_eq_true rfl) rfl ?_
      refine pv_iload_n dX3_faultPlace_23 rfl ?_
      refine pv_iconst (v := 4) dX3_faultPlace_24 (by decide) ?_
      refine pv_icmp_ne (tgt := 30) dX3_faultPlace_25 (by decide) ?_ ?_
      · refine pv_iinc (v := (v4.2 + 1)) (ls' := [some (.ref 42), some (.int r1), some (.int (v4.2 + 1))]) dX3_faultPlace_30 rfl rfl (Nat.le_of_ble_eq_true rfl) rfl ?_
        refine pv_goto (tgt := 4) dX3_faultPlace_33 (by decide) ?_
        exact hT4 (r1, (v4.2 + 1))
      · refine pv_iload_n dX3_faultPlace_28 rfl ?_
        exact pv_iret dX3_faultPlace_29 rfl rfl rfl
def f_X3_signAt (p1 : Int32) (μ : pm_M) : Option Int32 :=
  (if p1 < 0 then (some (0 : Int32)) else (if (μ 42 1) ≤ p1 then (some (0 : Int32)) else pm_ck p1 60 ((some (μ 43 (Int32.toNatClampNeg p1))))))
abbrev rm_X3_signAt : Room := { frames := 0, cells := 0, slots := 0, locals := 0 }
set_option maxRecDepth 20000 in
set_option maxHeartbeats 2000000 in
theorem k_X3_signAt (l : Launch) (p1 : Int32) (μ : pm_M) : pm_Ok l yX3_signAt cX3_signAt 2 (some .int) rm_X3_signAt [.ref 42, .int p1] SH false SH 0 0 (fun r => (some (.int r), μ)) μ (f_X3_signAt p1 μ) := by
  refine pm_enter (own := RX3) (by decide) rfl (fun h => by cases h) (ls := [some (.ref 42), some (.int p1)]) rfl (fun _ => Nat.le_of_ble_eq_true rfl) ?_
  unfold f_X3_signAt
  refine pv_iload_n dX3_signAt_0 rfl ?_
  refine pv_if_lt (tgt := 21) dX3_signAt_1 (by decide) ?_ ?_
  · refine pv_iconst (v := 0) dX3_signAt_21 (by decide) ?_
    exact pv_iret dX3_signAt_22 rfl rfl rfl
  · refine pv_iload_n dX3_signAt_4 rfl ?_
    refine pv_aload_n dX3_signAt_5 rfl ?_
    refine pv_geti dX3_signAt_6 fl_X3_15 sh_42 rfl ?_
    refine pv_icmp_ge (tgt := 21) dX3_signAt_9 (by decide) ?_ ?_
    · refine pv_iconst (v := 0) dX3_signAt_21 (by decide) ?_
      exact pv_iret dX3_signAt_22 rfl rfl rfl
    · refine pv_aload_n dX3_signAt_12 rfl ?_
      refine pv_getr dX3_signAt_13 fl_X3_9 sh_42 rfl ?_
      refine pv_iload_n dX3_signAt_16 rfl ?_
      refine pv_iald dX3_signAt_17 sh_43 ?_
      refine pv_goto (tgt := 22) dX3_signAt_18 (by decide) ?_
      exact pv_iret dX3_signAt_22 rfl rfl rfl
def f_X3_deedKind (p0 : Int32) : Option Int32 :=
  (pm_sw p0 [33, 42] [(some (2 : Int32)), (some (1 : Int32))] ((some (0 : Int32))))
abbrev rm_X3_deedKind : Room := { frames := 0, cells := 0, slots := 0, locals := 0 }
set_option maxRecDepth 20000 in
set_option maxHeartbeats 2000000 in
theorem k_X3_deedKind (l : Launch) (sh : pm_S) (p0 : Int32) (μ : pm_M) : pm_Ok l yX3_deedKind cX3_deedKind 1 (some .int) rm_X3_deedKind [.int p0] sh false sh 0 0 (fun r => (some (.int r), μ)) μ (f_X3_deedKind p0) := by
  refine pm_enter (own := RX3) (by decide) rfl (fun h => by cases h) (ls := [some (.int p0)]) rfl (fun _ => Nat.le_of_ble_eq_true rfl) ?_
  unfold f_X3_deedKind
  refine pv_iload_n dX3_deedKind_0 rfl ?_
  refine pv_lookup (kys := [33, 42]) (ts := [30, 28]) (tD := 32) dX3_deedKind_1 (by decide) rfl (by decide) (by decide) ⟨?_, ?_, trivial⟩ ?_
  · refine pv_iconst (v := 2) dX3_deedKind_30 (by decide) ?_
    exact pv_iret dX3_deedKind_31 rfl rfl rfl
  · refine pv_iconst (v := 1) dX3_deedKind_28 (by decide) ?_
    exact pv_iret dX3_deedKind_29 rfl rfl rfl
  · refine pv_iconst (v := 0) dX3_deedKind_32 (by decide) ?_
    exact pv_iret dX3_deedKind_33 rfl rfl rfl
def f_X3_kindAt (p1 : Int32) (μ : pm_M) : Option Int32 :=
  (f_X3_signAt p1 μ).bind (fun r1 => (pm_sw r1 [46, 119] [(some (4 : Int32)), (some (3 : Int32))] ((f_X3_signAt (p1 + (1 : Int32)) μ).bind (fun r2 => (f_X3_deedKind r2).bind (fun r3 => (some r3))))))
abbrev rm_X3_kindAt : Room := { frames := 1, cells := 0, slots := 0, locals := 21 }
set_option maxRecDepth 20000 in
set_option maxHeartbeats 2000000 in
theorem k_X3_kindAt (l : Launch) (p1 : Int32) (μ : pm_M) : pm_Ok l yX3_kindAt cX3_kindAt 2 (some .int) rm_X3_kindAt [.ref 42, .int p1] SH false SH 0 0 (fun r => (some (.int r), μ)) μ (f_X3_kindAt p1 μ) := by
  refine pm_enter (own := RX3) (by decide) rfl (fun h => by cases h) (ls := [some (.ref 42), some (.int p1)]) rfl (fun _ => Nat.le_of_ble_eq_true rfl) ?_
  unfold f_X3_kindAt
  refine pv_aload_n dX3_kindAt_0 rfl ?_
  refine pv_iload_n dX3_kindAt_1 rfl ?_
  refine pv_cv_ri (rest := []) dX3_kindAt_2 my_X3_signAt vl_X3_31 (k_X3_signAt l p1 μ) sh_42 rfl rfl ⟨rfl, rfl, Nat.le_of_ble_eq_true rfl, Nat.le_of_ble_eq_true rfl⟩ ⟨Nat.zero_le _, Nat.zero_le _⟩ (Nat.le_of_ble_eq_true rfl) rfl (fun r1 => ?_)
  refine pv_lookup (kys := [46, 119]) (ts := [32, 34]) (tD := 36) dX3_kindAt_5 (by decide) rfl (by decide) (by decide) ⟨?_, ?_, trivial⟩ ?_
  · refine pv_iconst (v := 4) dX3_kindAt_32 (by decide) ?_
    exact pv_iret dX3_kindAt_33 rfl rfl rfl
  · refine pv_iconst (v := 3) dX3_kindAt_34 (by decide) ?_
    exact pv_iret dX3_kindAt_35 rfl rfl rfl
  · refine pv_aload_n dX3_kindAt_36 rfl ?_
    refine pv_iload_n dX3_kindAt_37 rfl ?_
    refine pv_iconst (v := 1) dX3_kindAt_38 (by decide) ?_
    refine pv_iadd dX3_kindAt_39 ?_
    refine pv_cv_ri (rest := []) dX3_kindAt_40 my_X3_signAt vl_X3_31 (k_X3_signAt l (p1 + (1 : Int32)) μ) sh_42 rfl rfl ⟨rfl, rfl, Nat.le_of_ble_eq_true rfl, Nat.le_of_ble_eq_true rfl⟩ ⟨Nat.zero_le _, Nat.zero_le _⟩ (Nat.le_of_ble_eq_true rfl) rfl (fun r2 => ?_)
    refine pv_cs_ri (rest := []) dX3_kindAt_43 my_X3_deedKind sl_X3_34 (k_X3_deedKind l SH r2 μ) rfl ⟨rfl, rfl, Nat.le_of_ble_eq_true rfl, Nat.le_of_ble_eq_true rfl⟩ ⟨Nat.zero_le _, Nat.zero_le _⟩ (Nat.le_of_ble_eq_true rfl) rfl (fun r3 => ?_)
    exact pv_iret dX3_kindAt_46 rfl rfl rfl
def f_X3_manAt (p1 : Int32) (μ : pm_M) : Option Int32 :=
  (f_X3_signAt p1 μ).bind (fun r1 => (some (r1 - (65 : Int32))))
abbrev rm_X3_manAt : Room := { frames := 1, cells := 0, slots := 0, locals := 21 }
set_option maxRecDepth 20000 in
set_option maxHeartbeats 2000000 in
theorem k_X3_manAt (l : Launch) (p1 : Int32) (μ : pm_M) : pm_Ok l yX3_manAt cX3_manAt 2 (some .int) rm_X3_manAt [.ref 42, .int p1] SH false SH 0 0 (fun r => (some (.int r), μ)) μ (f_X3_manAt p1 μ) := by
  refine pm_enter (own := RX3) (by decide) rfl (fun h => by cases h) (ls := [some (.ref 42), some (.int p1)]) rfl (fun _ => Nat.le_of_ble_eq_true rfl) ?_
  unfold f_X3_manAt
  refine pv_aload_n dX3_manAt_0 rfl ?_
  refine pv_iload_n dX3_manAt_1 rfl ?_
  refine pv_cv_ri (rest := []) dX3_manAt_2 my_X3_signAt vl_X3_31 (k_X3_signAt l p1 μ) sh_42 rfl rfl ⟨rfl, rfl, Nat.le_of_ble_eq_true rfl, Nat.le_of_ble_eq_true rfl⟩ ⟨Nat.zero_le _, Nat.zero_le _⟩ (Nat.le_of_ble_eq_true rfl) rfl (fun r1 => ?_)
  refine pv_bipush (v := 65) dX3_manAt_5 (by decide) ?_
  refine pv_isub dX3_manAt_7 ?_
  exact pv_iret dX3_manAt_8 rfl rfl rfl
def f_X3_numberAt (p1 : Int32) (p2 : Int32) (μ : pm_M) : Option Int32 :=
  (pm_sw p2 [0, 1, 2, 3] [(f_X3_signAt (p1 + (1 : Int32)) μ).bind (fun r1 => (some (r1 - (97 : Int32)))), (some (0 : Int32)), (f_X3_signAt (p1 + (2 : Int32)) μ).bind (fun r2 => (some (r2 - (97 : Int32)))), (f_X3_signAt (p1 + (1 : Int32)) μ).bind (fun r3 => (some (r3 - (48 : Int32))))] ((some (0 : Int32))))
abbrev rm_X3_numberAt : Room := { frames := 1, cells := 0, slots := 0, locals := 21 }
set_option maxRecDepth 20000 in
set_option maxHeartbeats 2000000 in
theorem k_X3_numberAt (l : Launch) (p1 : Int32) (p2 : Int32) (μ : pm_M) : pm_Ok l yX3_numberAt cX3_numberAt 3 (some .int) rm_X3_numberAt [.ref 42, .int p1, .int p2] SH false SH 0 0 (fun r => (some (.int r), μ)) μ (f_X3_numberAt p1 p2 μ) := by
  refine pm_enter (own := RX3) (by decide) rfl (fun h => by cases h) (ls := [some (.ref 42), some (.int p1), some (.int p2)]) rfl (fun _ => Nat.le_of_ble_eq_true rfl) ?_
  unfold f_X3_numberAt
  refine pv_iload_n dX3_numberAt_0 rfl ?_
  refine pv_table (kys := [0, 1, 2, 3]) (ts := [32, 65, 43, 54]) (tD := 65) dX3_numberAt_1 rfl (by decide) (by decide) (by decide) (by decide) ⟨?_, ?_, ?_, ?_, trivial⟩ ?_
  · refine pv_aload_n dX3_numberAt_32 rfl ?_
    refine pv_iload_n dX3_numberAt_33 rfl ?_
    refine pv_iconst (v := 1) dX3_numberAt_34 (by decide) ?_
    refine pv_iadd dX3_numberAt_35 ?_
    refine pv_cv_ri (rest := []) dX3_numberAt_36 my_X3_signAt vl_X3_31 (k_X3_signAt l (p1 + (1 : Int32)) μ) sh_42 rfl rfl ⟨rfl, rfl, Nat.le_of_ble_eq_true rfl, Nat.le_of_ble_eq_true rfl⟩ ⟨Nat.zero_le _, Nat.zero_le _⟩ (Nat.le_of_ble_eq_true rfl) rfl (fun r1 => ?_)
    refine pv_bipush (v := 97) dX3_numberAt_39 (by decide) ?_
    refine pv_isub dX3_numberAt_41 ?_
    exact pv_iret dX3_numberAt_42 rfl rfl rfl
  · refine pv_iconst (v := 0) dX3_numberAt_65 (by decide) ?_
    exact pv_iret dX3_numberAt_66 rfl rfl rfl
  · refine pv_aload_n dX3_numberAt_43 rfl ?_
    refine pv_iload_n dX3_numberAt_44 rfl ?_
    refine pv_iconst (v := 2) dX3_numberAt_45 (by decide) ?_
    refine pv_iadd dX3_numberAt_46 ?_
    refine pv_cv_ri (rest := []) dX3_numberAt_47 my_X3_signAt vl_X3_31 (k_X3_signAt l (p1 + (2 : Int32)) μ) sh_42 rfl rfl ⟨rfl, rfl, Nat.le_of_ble_eq_true rfl, Nat.le_of_ble_eq_true rfl⟩ ⟨Nat.zero_le _, Nat.zero_le _⟩ (Nat.le_of_ble_eq_true rfl) rfl (fun r2 => ?_)
    refine pv_bipush (v := 97) dX3_numberAt_50 (by decide) ?_
    refine pv_isub dX3_numberAt_52 ?_
    exact pv_iret dX3_numberAt_53 rfl rfl rfl
  · refine pv_aload_n dX3_numberAt_54 rfl ?_
    refine pv_iload_n dX3_numberAt_55 rfl ?_
    refine pv_iconst (v := 1) dX3_numberAt_56 (by decide) ?_
    refine pv_iadd dX3_numberAt_57 ?_
    refine pv_cv_ri (rest := []) dX3_numberAt_58 my_X3_signAt vl_X3_31 (k_X3_signAt l (p1 + (1 : Int32)) μ) sh_42 rfl rfl ⟨rfl, rfl, Nat.le_of_ble_eq_true rfl, Nat.le_of_ble_eq_true rfl⟩ ⟨Nat.zero_le _, Nat.zero_le _⟩ (Nat.le_of_ble_eq_true rfl) rfl (fun r3 => ?_)
    refine pv_bipush (v := 48) dX3_numberAt_61 (by decide) ?_
    refine pv_isub dX3_numberAt_63 ?_
    exact pv_iret dX3_numberAt_64 rfl rfl rfl
  · refine pv_iconst (v := 0) dX3_numberAt_65 (by decide) ?_
    exact pv_iret dX3_numberAt_66 rfl rfl rfl
def f_X3_lengthOf (p0 : Int32) : Option Int32 :=
  (pm_sw p0 [2, 4] [(some (3 : Int32)), (some (1 : Int32))] ((some (2 : Int32))))
abbrev rm_X3_lengthOf : Room := { frames := 0, cells := 0, slots := 0, locals := 0 }
set_option maxRecDepth 20000 in
set_option maxHeartbeats 2000000 in
theorem k_X3_lengthOf (l : Launch) (sh : pm_S) (p0 : Int32) (μ : pm_M) : pm_Ok l yX3_lengthOf cX3_lengthOf 1 (some .int) rm_X3_lengthOf [.int p0] sh false sh 0 0 (fun r => (some (.int r), μ)) μ (f_X3_lengthOf p0) := by
  refine pm_enter (own := RX3) (by decide) rfl (fun h => by cases h) (ls := [some (.int p0)]) rfl (fun _ => Nat.le_of_ble_eq_true rfl) ?_
  unfold f_X3_lengthOf
  refine pv_iload_n dX3_lengthOf_0 rfl ?_
  refine pv_lookup (kys := [2, 4]) (ts := [30, 28]) (tD := 32) dX3_lengthOf_1 (by decide) rfl (by decide) (by decide) ⟨?_, ?_, trivial⟩ ?_
  · refine pv_iconst (v := 3) dX3_lengthOf_30 (by decide) ?_
    exact pv_iret dX3_lengthOf_31 rfl rfl rfl
  · refine pv_iconst (v := 1) dX3_lengthOf_28 (by decide) ?_
    exact pv_iret dX3_lengthOf_29 rfl rfl rfl
  · refine pv_iconst (v := 2) dX3_lengthOf_32 (by decide) ?_
    exact pv_iret dX3_lengthOf_33 rfl rfl rfl
def f_X4_leastMissing_b2 (p0 : Int32) (v2 : Int32) (T2 : (Int32 → Option Int32)) (E2 : (Int32 → Option Int32)) : Option Int32 :=
  (if (32 : Int32) ≤ v2 then (E2 v2) else (if ((p0 >>> (v2 &&& 31)) &&& (1 : Int32)) = (1 : Int32) then (T2 (v2 + 1)) else (E2 v2)))
def f_X4_leastMissing (p0 : Int32) : Option Int32 :=
  (pm_it (f_X4_leastMissing_b2 p0) 5000 (0 : Int32) (fun e2 => (some e2)))
abbrev rm_X4_leastMissing : Room := { frames := 0, cells := 0, slots := 0, locals := 0 }
set_option maxRecDepth 20000 in
set_option maxHeartbeats 2000000 in
theorem k_X4_leastMissing (l : Launch) (sh : pm_S) (p0 : Int32) (μ : pm_M) : pm_Ok l yX4_leastMissing cX4_leastMissing 2 (some .int) rm_X4_leastMissing [.int p0] sh false sh 0 0 (fun r => (some (.int r), μ)) μ (f_X4_leastMissing p0) := by
  refine pm_enter (own := RX4) (by decide) rfl (fun h => by cases h) (ls := [some (.int p0), none]) rfl (fun _ => Nat.le_of_ble_eq_true rfl) ?_
  unfold f_X4_leastMissing
  refine pv_iconst (v := 0) dX4_leastMissing_0 (by decide) ?_
  refine pv_istore_n (ls' := [some (.int p0), some (.int (0 : Int32))]) dX4_leastMissing_1 (Nat.le_of_ble_eq_true rfl) rfl ?_
  refine pv_loop (body := (f_X4_leastMissing_b2 p0)) (pcE := 23) (lsf := fun v2 => [some (.int p0), some (.int v2)]) (mf := fun v2 => μ) (lsE := fun e2 => [none, some (.int e2)]) (mE := fun e2 => μ) (fun e2 => ?_) (fun E2 hE2 T2 hT2 v2 => ?_) 5000 (0 : Int32)
  · refine pv_iload_n dX4_leastMissing_23 rfl ?_
    exact pv_iret dX4_leastMissing_24 rfl rfl rfl
  · unfold f_X4_leastMissing_b2
    refine pv_iload_n dX4_leastMissing_2 rfl ?_
    refine pv_bipush (v := 32) dX4_leastMissing_3 (by decide) ?_
    refine pv_icmp_ge (tgt := 23) dX4_leastMissing_5 (by decide) ?_ ?_
    · refine pv_mask (ls' := [none, some (.int v2)]) [false, true] rfl ?_
      exact hE2 v2
    · refine pv_iload_n dX4_leastMissing_8 rfl ?_
      refine pv_iload_n dX4_leastMissing_9 rfl ?_
      refine pv_ishr dX4_leastMissing_10 ?_
      refine pv_iconst (v := 1) dX4_leastMissing_11 (by decide) ?_
      refine pv_iand dX4_leastMissing_12 ?_
      refine pv_iconst (v := 1) dX4_leastMissing_13 (by decide) ?_
      refine pv_icmp_ne (tgt := 23) dX4_leastMissing_14 (by decide) ?_ ?_
      · refine pv_mask (ls' := [none, some (.int v2)]) [false, true] rfl ?_
        exact hE2 v2
      · refine pv_iinc (v := (v2 + 1)) (ls' := [some (.int p0), some (.int (v2 + 1))]) dX4_leastMissing_17 rfl rfl (Nat.le_of_ble_eq_true rfl) rfl ?_
        refine pv_goto (tgt := 2) dX4_leastMissing_20 (by decide) ?_
        exact hT2 (v2 + 1)
def f_X4_winningLess_b11 (p1 : Int32) (μ : pm_M) (v11 : Int32) (T11 : (Int32 → Option Int32)) (E11 : (Unit → Option Int32)) : Option Int32 :=
  (if p1 ≤ ((2 : Int32) * v11) then (E11 ()) else pm_ck v11 61 (pm_ck (p1 - v11) 61 ((if (μ 49 (Int32.toNatClampNeg v11)) = (μ 49 (Int32.toNatClampNeg (p1 - v11))) then (some v11) else (T11 (v11 + 1))))))
def f_X4_winningLess (p1 : Int32) (μ : pm_M) : Option Int32 :=
  (if p1 ≤ (60 : Int32) then (pm_it (f_X4_winningLess_b11 p1 μ) 5000 (1 : Int32) (fun e11 => (some (-6 : Int32)))) else (some (-6 : Int32)))
abbrev rm_X4_winningLess : Room := { frames := 0, cells := 0, slots := 0, locals := 0 }
set_option maxRecDepth 20000 in
set_option maxHeartbeats 2000000 in
theorem k_X4_winningLess (l : Launch) (p1 : Int32) (μ : pm_M) : pm_Ok l yX4_winningLess cX4_winningLess 3 (some .int) rm_X4_winningLess [.ref 48, .int p1] SH false SH 0 0 (fun r => (some (.int r), μ)) μ (f_X4_winningLess p1 μ) := by
  refine pm_enter (own := RX4) (by decide) rfl (fun h => by cases h) (ls := [some (.ref 48), some (.int p1), none]) rfl (fun _ => Nat.le_of_ble_eq_true rfl) ?_
  unfold f_X4_winningLess
  refine pv_iload_n dX4_winningLess_0 rfl ?_
  refine pv_bipush (v := 60) dX4_winningLess_1 (by decide) ?_
  refine pv_icmp_le (tgt := 9) dX4_winningLess_3 (by decide) ?_ ?_
  · refine pv_iconst (v := 1) dX4_winningLess_9 (by decide) ?_
    refine pv_istore_n (ls' := [some (.ref 48), some (.int p1), some (.int (1 : Int32))]) dX4_winningLess_10 (Nat.le_of_ble_eq_true rfl) rfl ?_
    refine pv_loop (body := (f_X4_winningLess_b11 p1 μ)) (pcE := 43) (lsf := fun v11 => [some (.ref 48), some (.int p1), some (.int v11)]) (mf := fun v11 => μ) (lsE := fun e11 => [none, none, none]) (mE := fun e11 => μ) (fun e11 => ?_) (fun E11 hE11 T11 hT11 v11 => ?_) 5000 (1 : Int32)
    · refine pv_bipush (v := (-6)) dX4_winningLess_43 (by decide) ?_
      exact pv_iret dX4_winningLess_45 rfl rfl rfl
    · unfold f_X4_winningLess_b11
      refine pv_iconst (v := 2) dX4_winningLess_11 (by decide) ?_
      refine pv_iload_n dX4_winningLess_12 rfl ?_
      refine pv_imul dX4_winningLess_13 ?_
      refine pv_iload_n dX4_winningLess_14 rfl ?_
      refine pv_icmp_ge (tgt := 43) dX4_winningLess_15 (by decide) ?_ ?_
      · refine pv_mask (ls' := [none, none, none]) [false, false, false] rfl ?_
        exact hE11 ()
      · refine pv_aload_n dX4_winningLess_18 rfl ?_
        refine pv_getr dX4_winningLess_19 fl_X4_9 sh_48 rfl ?_
        refine pv_iload_n dX4_winningLess_22 rfl ?_
        refine pv_iald dX4_winningLess_23 sh_49 ?_
        refine pv_aload_n dX4_winningLess_24 rfl ?_
        refine pv_getr dX4_winningLess_25 fl_X4_9 sh_48 rfl ?_
        refine pv_iload_n dX4_winningLess_28 rfl ?_
        refine pv_iload_n dX4_winningLess_29 rfl ?_
        refine pv_isub dX4_winningLess_30 ?_
        refine pv_iald dX4_winningLess_31 sh_49 ?_
        refine pv_icmp_ne (tgt := 37) dX4_winningLess_32 (by decide) ?_ ?_
        · refine pv_iinc (v := (v11 + 1)) (ls' := [some (.ref 48), some (.int p1), some (.int (v11 + 1))]) dX4_winningLess_37 rfl rfl (Nat.le_of_ble_eq_true rfl) rfl ?_
          refine pv_goto (tgt := 11) dX4_winningLess_40 (by decide) ?_
          exact hT11 (v11 + 1)
        · refine pv_iload_n dX4_winningLess_35 rfl ?_
          exact pv_iret dX4_winningLess_36 rfl rfl rfl
  · refine pv_bipush (v := (-6)) dX4_winningLess_6 (by decide) ?_
    exact pv_iret dX4_winningLess_8 rfl rfl rfl
