def f_X6_clear_b2 (b : Nat) (v2 : (Int32 × pm_M)) (T2 : ((Int32 × pm_M) → Option pm_M)) (E2 : (pm_M → Option pm_M)) : Option pm_M :=
  (if (410 : Int32) ≤ v2.1 then (E2 v2.2) else pm_ck v2.1 410 (pm_let (pm_up v2.2 (b + 1) (Int32.toNatClampNeg v2.1) v2.1) (fun m1 => (T2 ((v2.1 + 1), m1)))))
def f_X6_clear (b : Nat) (μ : pm_M) : Option pm_M :=
  (pm_it (f_X6_clear_b2 b) 5000 ((0 : Int32), μ) (fun e2 => pm_let (pm_up e2 b 2 (410 : Int32)) (fun m2 => pm_let (pm_up m2 b 3 (0 : Int32)) (fun m3 => (some m3)))))
abbrev rm_X6_clear : Room := { frames := 0, cells := 0, slots := 0, locals := 0 }
set_option maxRecDepth 20000 in
set_option maxHeartbeats 2000000 in
theorem k_X6_clear (l : Launch) (sh : pm_S) (b : Nat) (hb : is_X6 sh b) (μ : pm_M) : pm_Ok l yX6_clear cX6_clear 2 none rm_X6_clear [.ref b] sh false sh 0 0 (fun r => (none, r)) μ (f_X6_clear b μ) := by
  obtain ⟨hb0, hb1, hb2⟩ := id hb
  refine pm_enter (own := RX6) (by decide) rfl (fun h => by cases h) (ls := [some (.ref b), none]) rfl (fun _ => Nat.le_of_ble_eq_true rfl) ?_
  unfold f_X6_clear
  refine pv_iconst (v := 0) dX6_clear_0 (by decide) ?_
  refine pv_istore_n (ls' := [some (.ref b), some (.int (0 : Int32))]) dX6_clear_1 (Nat.le_of_ble_eq_true rfl) rfl ?_
  refine pv_loop (body := (f_X6_clear_b2 b)) (pcE := 22) (lsf := fun v2 => [some (.ref b), some (.int v2.1)]) (mf := fun v2 => v2.2) (lsE := fun e2 => [some (.ref b), none]) (mE := fun e2 => e2) (fun e2 => ?_) (fun E2 hE2 T2 hT2 v2 => ?_) 5000 ((0 : Int32), μ)
  · refine pv_aload_n dX6_clear_22 rfl ?_
    refine pv_sipush (v := 410) dX6_clear_23 (by decide) ?_
    refine pv_puti dX6_clear_26 fp_X6_18 hb0 rfl rfl rfl ?_
    refine pv_letM (fun m2 => ?_)
    refine pv_aload_n dX6_clear_29 rfl ?_
    refine pv_iconst (v := 0) dX6_clear_30 (by decide) ?_
    refine pv_puti dX6_clear_31 fp_X6_22 hb0 rfl rfl rfl ?_
    refine pv_letM (fun m3 => ?_)
    exact pv_vret dX6_clear_34 rfl rfl
  · unfold f_X6_clear_b2
    refine pv_iload_n dX6_clear_2 rfl ?_
    refine pv_sipush (v := 410) dX6_clear_3 (by decide) ?_
    refine pv_icmp_ge (tgt := 22) dX6_clear_6 (by decide) ?_ ?_
    · refine pv_mask (ls' := [some (.ref b), none]) [true, false] rfl ?_
      exact hE2 v2.2
    · refine pv_aload_n dX6_clear_9 rfl ?_
      refine pv_getr dX6_clear_10 fl_X6_9 hb0 rfl ?_
      refine pv_iload_n dX6_clear_13 rfl ?_
      refine pv_iload_n dX6_clear_14 rfl ?_
      refine pv_iast dX6_clear_15 hb1 ?_
      refine pv_letM (fun m1 => ?_)
      refine pv_iinc (v := (v2.1 + 1)) (ls' := [some (.ref b), some (.int (v2.1 + 1))]) dX6_clear_16 rfl rfl (Nat.le_of_ble_eq_true rfl) rfl ?_
      refine pv_goto (tgt := 2) dX6_clear_19 (by decide) ?_
      exact hT2 ((v2.1 + 1), m1)
def f_X6_copyFrom (b : Nat) (c : Nat) (μ : pm_M) : Option pm_M :=
  pm_let (pm_cp μ (c + 1) (b + 1) 410) (fun m1 => pm_let (pm_up m1 b 2 (m1 c 2)) (fun m2 => pm_let (pm_up m2 b 3 (m2 c 3)) (fun m3 => (some m3))))
abbrev rm_X6_copyFrom : Room := { frames := 1, cells := 0, slots := 0, locals := 18 }
set_option maxRecDepth 20000 in
set_option maxHeartbeats 2000000 in
theorem k_X6_copyFrom (l : Launch) (sh : pm_S) (b : Nat) (hb : is_X6 sh b) (c : Nat) (hc : is_X6 sh c) (μ : pm_M) : pm_Ok l yX6_copyFrom cX6_copyFrom 2 none rm_X6_copyFrom [.ref b, .ref c] sh false sh 0 0 (fun r => (none, r)) μ (f_X6_copyFrom b c μ) := by
  obtain ⟨hb0, hb1, hb2⟩ := id hb
  obtain ⟨hc0, hc1, hc2⟩ := id hc
  refine pm_enter (own := RX6) (by decide) rfl (fun h => by cases h) (ls := [some (.ref b), some (.ref c)]) rfl (fun _ => Nat.le_of_ble_eq_true rfl) ?_
  unfold f_X6_copyFrom
  refine pv_aload_n dX6_copyFrom_0 rfl ?_
  refine pv_getr dX6_copyFrom_1 fl_X6_9 hc0 rfl ?_
  refine pv_iconst (v := 0) dX6_copyFrom_4 (by decide) ?_
  refine pv_aload_n dX6_copyFrom_5 rfl ?_
  refine pv_getr dX6_copyFrom_6 fl_X6_9 hb0 rfl ?_
  refine pv_iconst (v := 0) dX6_copyFrom_9 (by decide) ?_
  refine pv_sipush (v := 410) dX6_copyFrom_10 (by decide) ?_
  refine pv_copy (N := 410) dX6_copyFrom_13 ac_X6_28.1 ac_X6_28.2.1 ac_X6_28.2.2.1 ac_X6_28.2.2.2 hc1 hb1 (by decide) rfl (Nat.le_of_ble_eq_true rfl) (Nat.le_of_ble_eq_true rfl) (Nat.le_of_ble_eq_true rfl) (Nat.le_of_ble_eq_true rfl) ?_
  refine pv_letM (fun m1 => ?_)
  refine pv_aload_n dX6_copyFrom_16 rfl ?_
  refine pv_aload_n dX6_copyFrom_17 rfl ?_
  refine pv_geti dX6_copyFrom_18 fl_X6_18 hc0 rfl ?_
  refine pv_puti dX6_copyFrom_21 fp_X6_18 hb0 rfl rfl rfl ?_
  refine pv_letM (fun m2 => ?_)
  refine pv_aload_n dX6_copyFrom_24 rfl ?_
  refine pv_aload_n dX6_copyFrom_25 rfl ?_
  refine pv_geti dX6_copyFrom_26 fl_X6_22 hc0 rfl ?_
  refine pv_puti dX6_copyFrom_29 fp_X6_22 hb0 rfl rfl rfl ?_
  refine pv_letM (fun m3 => ?_)
  exact pv_vret dX6_copyFrom_32 rfl rfl
def f_X6_lastDown (p0 : Int32) (p1 : Int32) : Option Int32 :=
  (some ((p0 / (10 : Int32)) + (p1 * (pm_rem p0 (10 : Int32)))))
abbrev rm_X6_lastDown : Room := { frames := 0, cells := 0, slots := 0, locals := 0 }
set_option maxRecDepth 20000 in
set_option maxHeartbeats 2000000 in
theorem k_X6_lastDown (l : Launch) (sh : pm_S) (p0 : Int32) (p1 : Int32) (μ : pm_M) : pm_Ok l yX6_lastDown cX6_lastDown 2 (some .int) rm_X6_lastDown [.int p0, .int p1] sh false sh 0 0 (fun r => (some (.int r), μ)) μ (f_X6_lastDown p0 p1) := by
  refine pm_enter (own := RX6) (by decide) rfl (fun h => by cases h) (ls := [some (.int p0), some (.int p1)]) rfl (fun _ => Nat.le_of_ble_eq_true rfl) ?_
  unfold f_X6_lastDown
  refine pv_iload_n dX6_lastDown_0 rfl ?_
  refine pv_bipush (v := 10) dX6_lastDown_1 (by decide) ?_
  refine pv_idiv dX6_lastDown_3 (by decide) ?_
  refine pv_iload_n dX6_lastDown_4 rfl ?_
  refine pv_iload_n dX6_lastDown_5 rfl ?_
  refine pv_bipush (v := 10) dX6_lastDown_6 (by decide) ?_
  refine pv_irem dX6_lastDown_8 (by decide) ?_
  refine pv_imul dX6_lastDown_9 ?_
  refine pv_iadd dX6_lastDown_10 ?_
  exact pv_iret dX6_lastDown_11 rfl rfl rfl
def f_X6_isDown (p0 : Int32) (p1 : Int32) (p2 : Int32) : Option Int32 :=
  (if p2 < (p0 / (10 : Int32)) then (some (0 : Int32)) else (f_X6_lastDown p0 p1).bind (fun r1 => (if r1 < p2 then (some (0 : Int32)) else (some (1 : Int32)))))
abbrev rm_X6_isDown : Room := { frames := 1, cells := 0, slots := 0, locals := 21 }
set_option maxRecDepth 20000 in
set_option maxHeartbeats 2000000 in
theorem k_X6_isDown (l : Launch) (sh : pm_S) (p0 : Int32) (p1 : Int32) (p2 : Int32) (μ : pm_M) : pm_Ok l yX6_isDown cX6_isDown 3 (some .boolean) rm_X6_isDown [.int p0, .int p1, .int p2] sh false sh 0 0 (fun r => (some (.int r), μ)) μ (f_X6_isDown p0 p1 p2) := by
  refine pm_enter (own := RX6) (by decide) rfl (fun h => by cases h) (ls := [some (.int p0), some (.int p1), some (.int p2)]) rfl (fun _ => Nat.le_of_ble_eq_true rfl) ?_
  unfold f_X6_isDown
  refine pv_iload_n dX6_isDown_0 rfl ?_
  refine pv_iload_n dX6_isDown_1 rfl ?_
  refine pv_bipush (v := 10) dX6_isDown_2 (by decide) ?_
  refine pv_idiv dX6_isDown_4 (by decide) ?_
  refine pv_icmp_lt (tgt := 21) dX6_isDown_5 (by decide) ?_ ?_
  · refine pv_iconst (v := 0) dX6_isDown_21 (by decide) ?_
    exact pv_iret dX6_isDown_22 rfl rfl rfl
  · refine pv_iload_n dX6_isDown_8 rfl ?_
    refine pv_iload_n dX6_isDown_9 rfl ?_
    refine pv_iload_n dX6_isDown_10 rfl ?_
    refine pv_cs_ri (rest := [.int p2]) dX6_isDown_11 my_X6_lastDown sl_X6_38 (k_X6_lastDown l sh p0 p1 μ) rfl ⟨rfl, rfl, Nat.le_of_ble_eq_true rfl, Nat.le_of_ble_eq_true rfl⟩ ⟨Nat.zero_le _, Nat.zero_le _⟩ (Nat.le_of_ble_eq_true rfl) rfl (fun r1 => ?_)
    refine pv_icmp_gt (tgt := 21) dX6_isDown_14 (by decide) ?_ ?_
    · refine pv_iconst (v := 0) dX6_isDown_21 (by decide) ?_
      exact pv_iret dX6_isDown_22 rfl rfl rfl
    · refine pv_iconst (v := 1) dX6_isDown_17 (by decide) ?_
      refine pv_goto (tgt := 22) dX6_isDown_18 (by decide) ?_
      exact pv_iret dX6_isDown_22 rfl rfl rfl
def f_X6_add_b27 (b : Nat) (p1 : Int32) (p2 : Int32) (p3 : Int32) (v27 : (Int32 × Int32 × pm_M)) (T27 : ((Int32 × Int32 × pm_M) → Option (Int32 × pm_M))) (E27 : ((Int32 × pm_M) → Option (Int32 × pm_M))) : Option (Int32 × pm_M) :=
  (if (v27.2.2 b 2) ≤ v27.2.1 then (E27 (v27.1, v27.2.2)) else pm_ck v27.2.1 410 ((f_X6_isDown (v27.2.2 (b + 1) (Int32.toNatClampNeg v27.2.1)) p1 p2).bind (fun r2 => (pm_jn (fun (a3 : (Int32 × pm_M)) => (T27 (a3.1, (v27.2.1 + 1), a3.2))) (fun j69 => (if r2 = p3 then pm_ck v27.2.1 410 (pm_ck v27.1 410 (pm_let (pm_up v27.2.2 (b + 1) (Int32.toNatClampNeg v27.1) (v27.2.2 (b + 1) (Int32.toNatClampNeg v27.2.1))) (fun m4 => (j69 ((v27.1 + 1), m4))))) else (j69 (v27.1, v27.2.2))))))))
def f_X6_add (b : Nat) (p1 : Int32) (p2 : Int32) (p3 : Int32) (μ : pm_M) : Option (Int32 × pm_M) :=
  (if (μ b 3) < (8 : Int32) then pm_let (pm_up μ b 3 ((μ b 3) + (1 : Int32))) (fun m1 => (pm_it (f_X6_add_b27 b p1 p2 p3) 5000 ((0 : Int32), (0 : Int32), m1) (fun e27 => pm_let (pm_up e27.2 b 2 e27.1) (fun m5 => (some ((1 : Int32), m5)))))) else (some ((0 : Int32), μ)))
abbrev rm_X6_add : Room := { frames := 2, cells := 0, slots := 0, locals := 43 }
set_option maxRecDepth 20000 in
set_option maxHeartbeats 2000000 in
theorem k_X6_add (l : Launch) (sh : pm_S) (b : Nat) (hb : is_X6 sh b) (p1 : Int32) (p2 : Int32) (p3 : Int32) (μ : pm_M) : pm_Ok l yX6_add cX6_add 6 (some .boolean) rm_X6_add [.ref b, .int p1, .int p2, .int p3] sh false sh 0 0 (fun r => (some (.int r.1), r.2)) μ (f_X6_add b p1 p2 p3 μ) := by
  obtain ⟨hb0, hb1, hb2⟩ := id hb
  refine pm_enter (own := RX6) (by decide) rfl (fun h => by cases h) (ls := [some (.ref b), some (.int p1), some (.int p2), some (.int p3), none, none]) rfl (fun _ => Nat.le_of_ble_eq_true rfl) ?_
  unfold f_X6_add
  refine pv_aload_n dX6_add_0 rfl ?_
  refine pv_geti dX6_add_1 fl_X6_22 hb0 rfl ?_
  refine pv_bipush (v := 8) dX6_add_4 (by decide) ?_
  refine pv_icmp_lt (tgt := 11) dX6_add_6 (by decide) ?_ ?_
  · refine pv_aload_n dX6_add_11 rfl ?_
    refine pv_dup dX6_add_12 rfl ?_
    refine pv_geti dX6_add_13 fl_X6_22 hb0 rfl ?_
    refine pv_iconst (v := 1) dX6_add_16 (by decide) ?_
    refine pv_iadd dX6_add_17 ?_
    refine pv_puti dX6_add_18 fp_X6_22 hb0 rfl rfl rfl ?_
    refine pv_letM (fun m1 => ?_)
    refine pv_iconst (v := 0) dX6_add_21 (by decide) ?_
    refine pv_istore (ls' := [some (.ref b), some (.int p1), some (.int p2), some (.int p3), some (.int (0 : Int32)), none]) dX6_add_22 (Nat.le_of_ble_eq_true rfl) rfl ?_
    refine pv_iconst (v := 0) dX6_add_24 (by decide) ?_
    refine pv_istore (ls' := [some (.ref b), some (.int p1), some (.int p2), some (.int p3), some (.int (0 : Int32)), some (.int (0 : Int32))]) dX6_add_25 (Nat.le_of_ble_eq_true rfl) rfl ?_
    refine pv_loop (body := (f_X6_add_b27 b p1 p2 p3)) (pcE := 75) (lsf := fun v27 => [some (.ref b), some (.int p1), some (.int p2), some (.int p3), some (.int v27.1), some (.int v27.2.1)]) (mf := fun v27 => v27.2.2) (lsE := fun e27 => [some (.ref b), none, none, none, some (.int e27.1), none]) (mE := fun e27 => e27.2) (fun e27 => ?_) (fun E27 hE27 T27 hT27 v27 => ?_) 5000 ((0 : Int32), (0 : Int32), m1)
    · refine pv_aload_n dX6_add_75 rfl ?_
      refine pv_iload dX6_add_76 rfl ?_
      refine pv_puti dX6_add_78 fp_X6_18 hb0 rfl rfl rfl ?_
      refine pv_letM (fun m5 => ?_)
      refine pv_iconst (v := 1) dX6_add_81 (by decide) ?_
      exact pv_iret dX6_add_82 rfl rfl rfl
    · unfold f_X6_add_b27
      refine pv_iload dX6_add_27 rfl ?_
      refine pv_aload_n dX6_add_29 rfl ?_
      refine pv_geti dX6_add_30 fl_X6_18 hb0 rfl ?_
      refine pv_icmp_ge (tgt := 75) dX6_add_33 (by decide) ?_ ?_
      · refine pv_mask (ls' := [some (.ref b), none, none, none, some (.int v27.1), none]) [true, false, false, false, true, false] rfl ?_
        exact hE27 (v27.1, v27.2.2)
      · refine pv_aload_n dX6_add_36 rfl ?_
        refine pv_getr dX6_add_37 fl_X6_9 hb0 rfl ?_
        refine pv_iload dX6_add_40 rfl ?_
        refine pv_iald dX6_add_42 hb1 ?_
        refine pv_iload_n dX6_add_43 rfl ?_
        refine pv_iload_n dX6_add_44 rfl ?_
        refine pv_cs_ri (rest := []) dX6_add_45 my_X6_isDown sl_X6_34 (k_X6_isDown l sh (v27.2.2 (b + 1) (Int32.toNatClampNeg v27.2.1)) p1 p2 v27.2.2) rfl ⟨rfl, rfl, Nat.le_of_ble_eq_true rfl, Nat.le_of_ble_eq_true rfl⟩ ⟨Nat.zero_le _, Nat.zero_le _⟩ (Nat.le_of_ble_eq_true rfl) rfl (fun r2 => ?_)
        refine pv_iload_n dX6_add_48 rfl ?_
        refine pv_jn (pcJ := 69) (lsJ := fun a3 => [some (.ref b), some (.int p1), some (.int p2), some (.int p3), some (.int a3.1), some (.int v27.2.1)]) (stJ := fun a3 => []) (mJ := fun a3 => a3.2) (fun a3 => ?_) (fun j69 hj69 => ?_)
        · refine pv_iinc (v := (v27.2.1 + 1)) (ls' := [some (.ref b), some (.int p1), some (.int p2), some (.int p3), some (.int a3.1), some (.int (v27.2.1 + 1))]) dX6_add_69 rfl rfl (Nat.le_of_ble_eq_true rfl) rfl ?_
          refine pv_goto (tgt := 27) dX6_add_72 (by decide) ?_
          exact hT27 (a3.1, (v27.2.1 + 1), a3.2)
        · refine pv_icmp_ne (tgt := 69) dX6_add_49 (by decide) ?_ ?_
          · exact hj69 (v27.1, v27.2.2)
          · refine pv_aload_n dX6_add_52 rfl ?_
            refine pv_getr dX6_add_53 fl_X6_9 hb0 rfl ?_
            refine pv_iload dX6_add_56 rfl ?_
            refine pv_aload_n dX6_add_58 rfl ?_
            refine pv_getr dX6_add_59 fl_X6_9 hb0 rfl ?_
            refine pv_iload dX6_add_62 rfl ?_
            refine pv_iald dX6_add_64 hb1 ?_
            refine pv_iast dX6_add_65 hb1 ?_
            refine pv_letM (fun m4 => ?_)
            refine pv_iinc (v := (v27.1 + 1)) (ls' := [some (.ref b), some (.int p1), some (.int p2), some (.int p3), some (.int (v27.1 + 1)), some (.int v27.2.1)]) dX6_add_66 rfl rfl (Nat.le_of_ble_eq_true rfl) rfl ?_
            exact hj69 ((v27.1 + 1), m4)
  · refine pv_iconst (v := 0) dX6_add_9 (by decide) ?_
    exact pv_iret dX6_add_10 rfl rfl rfl
def f_X6_caseAt (b : Nat) (p1 : Int32) (μ : pm_M) : Option Int32 :=
  (if p1 < 0 then (some (-6 : Int32)) else (if (μ b 2) ≤ p1 then (some (-6 : Int32)) else pm_ck p1 410 ((some (μ (b + 1) (Int32.toNatClampNeg p1))))))
abbrev rm_X6_caseAt : Room := { frames := 0, cells := 0, slots := 0, locals := 0 }
set_option maxRecDepth 20000 in
set_option maxHeartbeats 2000000 in
theorem k_X6_caseAt (l : Launch) (sh : pm_S) (b : Nat) (hb : is_X6 sh b) (p1 : Int32) (μ : pm_M) : pm_Ok l yX6_caseAt cX6_caseAt 2 (some .int) rm_X6_caseAt [.ref b, .int p1] sh false sh 0 0 (fun r => (some (.int r), μ)) μ (f_X6_caseAt b p1 μ) := by
  obtain ⟨hb0, hb1, hb2⟩ := id hb
  refine pm_enter (own := RX6) (by decide) rfl (fun h => by cases h) (ls := [some (.ref b), some (.int p1)]) rfl (fun _ => Nat.le_of_ble_eq_true rfl) ?_
  unfold f_X6_caseAt
  refine pv_iload_n dX6_caseAt_0 rfl ?_
  refine pv_if_lt (tgt := 21) dX6_caseAt_1 (by decide) ?_ ?_
  · refine pv_bipush (v := (-6)) dX6_caseAt_21 (by decide) ?_
    exact pv_iret dX6_caseAt_23 rfl rfl rfl
  · refine pv_iload_n dX6_caseAt_4 rfl ?_
    refine pv_aload_n dX6_caseAt_5 rfl ?_
    refine pv_geti dX6_caseAt_6 fl_X6_18 hb0 rfl ?_
    refine pv_icmp_ge (tgt := 21) dX6_caseAt_9 (by decide) ?_ ?_
    · refine pv_bipush (v := (-6)) dX6_caseAt_21 (by decide) ?_
      exact pv_iret dX6_caseAt_23 rfl rfl rfl
    · refine pv_aload_n dX6_caseAt_12 rfl ?_
      refine pv_getr dX6_caseAt_13 fl_X6_9 hb0 rfl ?_
      refine pv_iload_n dX6_caseAt_16 rfl ?_
      refine pv_iald dX6_caseAt_17 hb1 ?_
      refine pv_goto (tgt := 23) dX6_caseAt_18 (by decide) ?_
      exact pv_iret dX6_caseAt_23 rfl rfl rfl
def f_X6_tally_b10 (b : Nat) (p1 : Int32) (v10 : (Int32 × pm_M)) (T10 : ((Int32 × pm_M) → Option pm_M)) (E10 : (pm_M → Option pm_M)) : Option pm_M :=
  (if (v10.2 b 2) ≤ v10.1 then (E10 v10.2) else pm_ck v10.1 410 (pm_let ((v10.2 (b + 1) (Int32.toNatClampNeg v10.1)) / (10 : Int32)) (fun x2 => pm_ck v10.1 410 ((f_X6_lastDown (v10.2 (b + 1) (Int32.toNatClampNeg v10.1)) p1).bind (fun r3 => pm_let (r3 + (1 : Int32)) (fun x4 => (pm_jn (fun (a5 : pm_M) => (T10 ((v10.1 + 1), a5))) (fun j85 => (if x2 < 0 then (j85 v10.2) else (if (100 : Int32) < x2 then (j85 v10.2) else (if x4 < 0 then (j85 v10.2) else (if (100 : Int32) < x4 then (j85 v10.2) else pm_ck x2 101 (pm_ck x2 101 (pm_let (pm_up v10.2 (b + 2) (Int32.toNatClampNeg x2) ((v10.2 (b + 2) (Int32.toNatClampNeg x2)) + (1 : Int32))) (fun m6 => pm_ck x4 101 (pm_ck x4 101 (pm_let (pm_up m6 (b + 2) (Int32.toNatClampNeg x4) ((m6 (b + 2) (Int32.toNatClampNeg x4)) - (1 : Int32))) (fun m7 => (j85 m7)))))))))))))))))))
def f_X6_tally (b : Nat) (p1 : Int32) (μ : pm_M) : Option pm_M :=
  (f_J7_fill_53178 (b + 2) 101 (0 : Int32) μ).bind (fun m1 => (pm_it (f_X6_tally_b10 b p1) 5000 ((0 : Int32), m1) (fun e10 => (some e10))))
abbrev rm_X6_tally : Room := { frames := 1, cells := 0, slots := 0, locals := 23 }
set_option maxRecDepth 20000 in
set_option maxHeartbeats 2000000 in
theorem k_X6_tally (l : Launch) (sh : pm_S) (b : Nat) (hb : is_X6 sh b) (p1 : Int32) (μ : pm_M) : pm_Ok l yX6_tally cX6_tally 5 none rm_X6_tally [.ref b, .int p1] sh false sh 0 0 (fun r => (none, r)) μ (f_X6_tally b p1 μ) := by
  obtain ⟨hb0, hb1, hb2⟩ := id hb
  refine pm_enter (own := RX6) (by decide) rfl (fun h => by cases h) (ls := [some (.ref b), some (.int p1), none, none, none]) rfl (fun _ => Nat.le_of_ble_eq_true rfl) ?_
  unfold f_X6_tally
  refine pv_aload_n dX6_tally_0 rfl ?_
  refine pv_getr dX6_tally_1 fl_X6_15 hb0 rfl ?_
  refine pv_iconst (v := 0) dX6_tally_4 (by decide) ?_
  refine pv_cs_wv (rest := []) dX6_tally_5 my_J7_fill_53178 sl_X6_51 (k_J7_fill_53178 l sh (b + 2) 101 hb2 (0 : Int32) μ) rfl ⟨rfl, rfl, Nat.le_of_ble_eq_true rfl, Nat.le_of_ble_eq_true rfl⟩ ⟨Nat.zero_le _, Nat.zero_le _⟩ (Nat.le_of_ble_eq_true rfl) rfl (fun m1 => ?_)
  refine pv_iconst (v := 0) dX6_tally_8 (by decide) ?_
  refine pv_istore_n (ls' := [some (.ref b), some (.int p1), some (.int (0 : Int32)), none, none]) dX6_tally_9 (Nat.le_of_ble_eq_true rfl) rfl ?_
  refine pv_loop (body := (f_X6_tally_b10 b p1)) (pcE := 91) (lsf := fun v10 => [some (.ref b), some (.int p1), some (.int v10.1), none, none]) (mf := fun v10 => v10.2) (lsE := fun e10 => [none, none, none, none, none]) (mE := fun e10 => e10) (fun e10 => ?_) (fun E10 hE10 T10 hT10 v10 => ?_) 5000 ((0 : Int32), m1)
  · exact pv_vret dX6_tally_91 rfl rfl
  · unfold f_X6_tally_b10
    refine pv_iload_n dX6_tally_10 rfl ?_
    refine pv_aload_n dX6_tally_11 rfl ?_
    refine pv_geti dX6_tally_12 fl_X6_18 hb0 rfl ?_
    refine pv_icmp_ge (tgt := 91) dX6_tally_15 (by decide) ?_ ?_
    · refine pv_mask (ls' := [none, none, none, none, none]) [false, false, false, false, false] rfl ?_
      exact hE10 v10.2
    · refine pv_aload_n dX6_tally_18 rfl ?_
      refine pv_getr dX6_tally_19 fl_X6_9 hb0 rfl ?_
      refine pv_iload_n dX6_tally_22 rfl ?_
      refine pv_iald dX6_tally_23 hb1 ?_
      refine pv_bipush (v := 10) dX6_tally_24 (by decide) ?_
      refine pv_idiv dX6_tally_26 (by decide) ?_
      refine pv_let (fun x2 => ?_)
      refine pv_istore_n (ls' := [some (.ref b), some (.int p1), some (.int v10.1), some (.int x2), none]) dX6_tally_27 (Nat.le_of_ble_eq_true rfl) rfl ?_
      refine pv_aload_n dX6_tally_28 rfl ?_
      refine pv_getr dX6_tally_29 fl_X6_9 hb0 rfl ?_
      refine pv_iload_n dX6_tally_32 rfl ?_
      refine pv_iald dX6_tally_33 hb1 ?_
      refine pv_iload_n dX6_tally_34 rfl ?_
      refine pv_cs_ri (rest := []) dX6_tally_35 my_X6_lastDown sl_X6_38 (k_X6_lastDown l sh (v10.2 (b + 1) (Int32.toNatClampNeg v10.1)) p1 v10.2) rfl ⟨rfl, rfl, Nat.le_of_ble_eq_true rfl, Nat.le_of_ble_eq_true rfl⟩ ⟨Nat.zero_le _, Nat.zero_le _⟩ (Nat.le_of_ble_eq_true rfl) rfl (fun r3 => ?_)
      refine pv_iconst (v := 1) dX6_tally_38 (by decide) ?_
      refine pv_iadd dX6_tally_39 ?_
      refine pv_let (fun x4 => ?_)
      refine pv_istore (ls' := [some (.ref b), some (.int p1), some (.int v10.1), some (.int x2), some (.int x4)]) dX6_tally_40 (Nat.le_of_ble_eq_true rfl) rfl ?_
      refine pv_iload_n dX6_tally_42 rfl ?_
      refine pv_jn (pcJ := 85) (lsJ := fun a5 => [some (.ref b), some (.int p1), some (.int v10.1), none, none]) (stJ := fun a5 => []) (mJ := fun a5 => a5) (fun a5 => ?_) (fun j85 hj85 => ?_)
      · refine pv_iinc (v := (v10.1 + 1)) (ls' := [some (.ref b), some (.int p1), some (.int (v10.1 + 1)), none, none]) dX6_tally_85 rfl rfl (Nat.le_of_ble_eq_true rfl) rfl ?_
        refine pv_goto (tgt := 10) dX6_tally_88 (by decide) ?_
        exact hT10 ((v10.1 + 1), a5)
      · refine pv_if_lt (tgt := 85) dX6_tally_43 (by decide) ?_ ?_
        · refine pv_mask (ls' := [some (.ref b), some (.int p1), some (.int v10.1), none, none]) [true, true, true, false, false] rfl ?_
          exact hj85 v10.2
        · refine pv_iload_n dX6_tally_46 rfl ?_
          refine pv_bipush (v := 100) dX6_tally_47 (by decide) ?_
          refine pv_icmp_gt (tgt := 85) dX6_tally_49 (by decide) ?_ ?_
          · refine pv_mask (ls' := [some (.ref b), some (.int p1), some (.int v10.1), none, none]) [true, true, true, false, false] rfl ?_
            exact hj85 v10.2
          · refine pv_iload dX6_tally_52 rfl ?_
            refine pv_if_lt (tgt := 85) dX6_tally_54 (by decide) ?_ ?_
            · refine pv_mask (ls' := [some (.ref b), some (.int p1), some (.int v10.1), none, none]) [true, true, true, false, false] rfl ?_
              exact hj85 v10.2
            · refine pv_iload dX6_tally_57 rfl ?_
              refine pv_bipush (v := 100) dX6_tally_59 (by decide) ?_
              refine pv_icmp_gt (tgt := 85) dX6_tally_61 (by decide) ?_ ?_
              · refine pv_mask (ls' := [some (.ref b), some (.int p1), some (.int v10.1), none, none]) [true, true, true, false, false] rfl ?_
                exact hj85 v10.2
              · refine pv_aload_n dX6_tally_64 rfl ?_
                refine pv_getr dX6_tally_65 fl_X6_15 hb0 rfl ?_
                refine pv_iload_n dX6_tally_68 rfl ?_
                refine pv_dup2 dX6_tally_69 rfl rfl ?_
                refine pv_iald dX6_tally_70 hb2 ?_
                refine pv_iconst (v := 1) dX6_tally_71 (by decide) ?_
                refine pv_iadd dX6_tally_72 ?_
                refine pv_iast dX6_tally_73 hb2 ?_
                refine pv_letM (fun m6 => ?_)
                refine pv_aload_n dX6_tally_74 rfl ?_
                refine pv_getr dX6_tally_75 fl_X6_15 hb0 rfl ?_
                refine pv_iload dX6_tally_78 rfl ?_
                refine pv_dup2 dX6_tally_80 rfl rfl ?_
                refine pv_iald dX6_tally_81 hb2 ?_
                refine pv_iconst (v := 1) dX6_tally_82 (by decide) ?_
                refine pv_isub dX6_tally_83 ?_
                refine pv_iast dX6_tally_84 hb2 ?_
                refine pv_letM (fun m7 => ?_)
                refine pv_mask (ls' := [some (.ref b), some (.int p1), some (.int v10.1), none, none]) [true, true, true, false, false] rfl ?_
                exact hj85 m7
def f_X6_bestQuestion_b32 (b : Nat) (v9 : (Int32 × Int32 × Int32 × pm_M)) (m1 : pm_M) (v32 : (Int32 × Int32 × Int32 × Int32)) (T32 : ((Int32 × Int32 × Int32 × Int32) → Option (Int32 × pm_M))) (E32 : ((Int32 × Int32) → Option (Int32 × pm_M))) : Option (Int32 × pm_M) :=
  (if (100 : Int32) ≤ v32.2.2.2 then (E32 (v32.1, v32.2.1)) else pm_ck v32.2.2.2 101 (pm_let (v32.2.2.1 + (m1 (b + 2) (Int32.toNatClampNeg v32.2.2.2))) (fun x2 => pm_let (if x2 < ((m1 b 2) - x2) then ((m1 b 2) - x2) else x2) (fun x3 => (pm_jn (fun (a4 : (Int32 × Int32)) => (T32 (a4.1, a4.2, x2, (v32.2.2.2 + 1)))) (fun j82 => (if v32.2.1 ≤ x3 then (j82 (v32.1, v32.2.1)) else pm_let (((100 : Int32) * v9.2.2.1) + v32.2.2.2) (fun x5 => (j82 (x5, x3))))))))))
def f_X6_bestQuestion_b9 (b : Nat) (v9 : (Int32 × Int32 × Int32 × pm_M)) (T9 : ((Int32 × Int32 × Int32 × pm_M) → Option (Int32 × pm_M))) (E9 : ((Int32 × pm_M) → Option (Int32 × pm_M))) : Option (Int32 × pm_M) :=
  (if (5 : Int32) < v9.2.2.1 then (E9 (v9.1, v9.2.2.2)) else (if (v9.2.2.2 b 2) ≤ 0 then (E9 (v9.1, v9.2.2.2)) else (f_X6_tally b v9.2.2.1 v9.2.2.2).bind (fun m1 => (pm_it (f_X6_bestQuestion_b32 b v9 m1) 5000 (v9.1, v9.2.1, (0 : Int32), (0 : Int32)) (fun e32 => (T9 (e32.1, e32.2, (v9.2.2.1 + 1), m1)))))))
def f_X6_bestQuestion (b : Nat) (μ : pm_M) : Option (Int32 × pm_M) :=
  (pm_it (f_X6_bestQuestion_b9 b) 5000 ((-6 : Int32), (411 : Int32), (0 : Int32), μ) (fun e9 => (some (e9.1, e9.2))))
abbrev rm_X6_bestQuestion : Room := { frames := 2, cells := 0, slots := 0, locals := 47 }
set_option maxRecDepth 20000 in
set_option maxHeartbeats 2000000 in
theorem k_X6_bestQuestion (l : Launch) (sh : pm_S) (b : Nat) (hb : is_X6 sh b) (μ : pm_M) : pm_Ok l yX6_bestQuestion cX6_bestQuestion 7 (some .int) rm_X6_bestQuestion [.ref b] sh false sh 0 0 (fun r => (some (.int r.1), r.2)) μ (f_X6_bestQuestion b μ) := by
  obtain ⟨hb0, hb1, hb2⟩ := id hb
  refine pm_enter (own := RX6) (by decide) rfl (fun h => by cases h) (ls := [some (.ref b), none, none, none, none, none, none]) rfl (fun _ => Nat.le_of_ble_eq_true rfl) ?_
  unfold f_X6_bestQuestion
  refine pv_bipush (v := (-6)) dX6_bestQuestion_0 (by decide) ?_
  refine pv_istore_n (ls' := [some (.ref b), some (.int (-6 : Int32)), none, none, none, none, none]) dX6_bestQuestion_2 (Nat.le_of_ble_eq_true rfl) rfl ?_
  refine pv_sipush (v := 411) dX6_bestQuestion_3 (by decide) ?_
  refine pv_istore_n (ls' := [some (.ref b), some (.int (-6 : Int32)), some (.int (411 : Int32)), none, none, none, none]) dX6_bestQuestion_6 (Nat.le_of_ble_eq_true rfl) rfl ?_
  refine pv_iconst (v := 0) dX6_bestQuestion_7 (by decide) ?_
  refine pv_istore_n (ls' := [some (.ref b), some (.int (-6 : Int32)), some (.int (411 : Int32)), some (.int (0 : Int32)), none, none, none]) dX6_bestQuestion_8 (Nat.le_of_ble_eq_true rfl) rfl ?_
  refine pv_loop (body := (f_X6_bestQuestion_b9 b)) (pcE := 94) (lsf := fun v9 => [some (.ref b), some (.int v9.1), some (.int v9.2.1), some (.int v9.2.2.1), none, none, none]) (mf := fun v9 => v9.2.2.2) (lsE := fun e9 => [none, some (.int e9.1), none, none, none, none, none]) (mE := fun e9 => e9.2) (fun e9 => ?_) (fun E9 hE9 T9 hT9 v9 => ?_) 5000 ((-6 : Int32), (411 : Int32), (0 : Int32), μ)
  · refine pv_iload_n dX6_bestQuestion_94 rfl ?_
    exact pv_iret dX6_bestQuestion_95 rfl rfl rfl
  · unfold f_X6_bestQuestion_b9
    refine pv_iload_n dX6_bestQuestion_9 rfl ?_
    refine pv_iconst (v := 5) dX6_bestQuestion_10 (by decide) ?_
    refine pv_icmp_gt (tgt := 94) dX6_bestQuestion_11 (by decide) ?_ ?_
    · refine pv_mask (ls' := [none, some (.int v9.1), none, none, none, none, none]) [false, true, false, false, false, false, false] rfl ?_
      exact hE9 (v9.1, v9.2.2.2)
    · refine pv_aload_n dX6_bestQuestion_14 rfl ?_
      refine pv_geti dX6_bestQuestion_15 fl_X6_18 hb0 rfl ?_
      refine pv_if_le (tgt := 94) dX6_bestQuestion_18 (by decide) ?_ ?_
      · refine pv_mask (ls' := [none, some (.int v9.1), none, none, none, none, none]) [false, true, false, false, false, false, false] rfl ?_
        exact hE9 (v9.1, v9.2.2.2)
      · refine pv_aload_n dX6_bestQuestion_21 rfl ?_
        refine pv_iload_n dX6_bestQuestion_22 rfl ?_
        refine pv_cv_wv (rest := []) dX6_bestQuestion_23 my_X6_tally vl_X6_42 (k_X6_tally l sh b hb v9.2.2.1 v9.2.2.2) hb0 rfl rfl ⟨rfl, rfl, Nat.le_of_ble_eq_true rfl, Nat.le_of_ble_eq_true rfl⟩ ⟨Nat.zero_le _, Nat.zero_le _⟩ (Nat.le_of_ble_eq_true rfl) rfl (fun m1 => ?_)
        refine pv_iconst (v := 0) dX6_bestQuestion_26 (by decide) ?_
        refine pv_istore (ls' := [some (.ref b), some (.int v9.1), some (.int v9.2.1), some (.int v9.2.2.1), some (.int (0 : Int32)), none, none]) dX6_bestQuestion_27 (Nat.le_of_ble_eq_true rfl) rfl ?_
        refine pv_iconst (v := 0) dX6_bestQuestion_29 (by decide) ?_
        refine pv_istore (ls' := [some (.ref b), some (.int v9.1), some (.int v9.2.1), some (.int v9.2.2.1), some (.int (0 : Int32)), some (.int (0 : Int32)), none]) dX6_bestQuestion_30 (Nat.le_of_ble_eq_true rfl) rfl ?_
        refine pv_loop (body := (f_X6_bestQuestion_b32 b v9 m1)) (pcE := 88) (lsf := fun v32 => [some (.ref b), some (.int v32.1), some (.int v32.2.1), some (.int v9.2.2.1), some (.int v32.2.2.1), some (.int v32.2.2.2), none]) (mf := fun v32 => m1) (lsE := fun e32 => [some (.ref b), some (.int e32.1), some (.int e32.2), some (.int v9.2.2.1), none, none, none]) (mE := fun e32 => m1) (fun e32 => ?_) (fun E32 hE32 T32 hT32 v32 => ?_) 5000 (v9.1, v9.2.1, (0 : Int32), (0 : Int32))
        · refine pv_iinc (v := (v9.2.2.1 + 1)) (ls' := [some (.ref b), some (.int e32.1), some (.int e32.2), some (.int (v9.2.2.1 + 1)), none, none, none]) dX6_bestQuestion_88 rfl rfl (Nat.le_of_ble_eq_true rfl) rfl ?_
          refine pv_goto (tgt := 9) dX6_bestQuestion_91 (by decide) ?_
          exact hT9 (e32.1, e32.2, (v9.2.2.1 + 1), m1)
        · unfold f_X6_bestQuestion_b32
          refine pv_iload dX6_bestQuestion_32 rfl ?_
          refine pv_bipush (v := 100) dX6_bestQuestion_34 (by decide) ?_
          refine pv_icmp_ge (tgt := 88) dX6_bestQuestion_36 (by decide) ?_ ?_
          · refine pv_mask (ls' := [some (.ref b), some (.int v32.1), some (.int v32.2.1), some (.int v9.2.2.1), none, none, none]) [true, true, true, true, false, false, false] rfl ?_
            exact hE32 (v32.1, v32.2.1)
          · refine pv_iload dX6_bestQuestion_39 rfl ?_
            refine pv_aload_n dX6_bestQuestion_41 rfl ?_
            refine pv_getr dX6_bestQuestion_42 fl_X6_15 hb0 rfl ?_
            refine pv_iload dX6_bestQuestion_45 rfl ?_
            refine pv_iald dX6_bestQuestion_47 hb2 ?_
            refine pv_iadd dX6_bestQuestion_48 ?_
            refine pv_let (fun x2 => ?_)
            refine pv_istore (ls' := [some (.ref b), some (.int v32.1), some (.int v32.2.1), some (.int v9.2.2.1), some (.int x2), some (.int v32.2.2.2), none]) dX6_bestQuestion_49 (Nat.le_of_ble_eq_true rfl) rfl ?_
            refine pv_iload dX6_bestQuestion_51 rfl ?_
            refine pv_aload_n dX6_bestQuestion_53 rfl ?_
            refine pv_geti dX6_bestQuestion_54 fl_X6_18 hb0 rfl ?_
            refine pv_iload dX6_bestQuestion_57 rfl ?_
            refine pv_isub dX6_bestQuestion_59 ?_
            refine pv_mmax dX6_bestQuestion_60 my_J9_max_7cf53 ⟨tw_589, tw_399⟩ (Nat.le_of_ble_eq_true rfl) (Nat.le_of_ble_eq_true rfl) ⟨Nat.zero_le _, Nat.zero_le _⟩ ?_
            refine pv_let (fun x3 => ?_)
            refine pv_istore (ls' := [some (.ref b), some (.int v32.1), some (.int v32.2.1), some (.int v9.2.2.1), some (.int x2), some (.int v32.2.2.2), some (.int x3)]) dX6_bestQuestion_63 (Nat.le_of_ble_eq_true rfl) rfl ?_
            refine pv_iload dX6_bestQuestion_65 rfl ?_
            refine pv_iload_n dX6_bestQuestion_67 rfl ?_
            refine pv_jn (pcJ := 82) (lsJ := fun a4 => [some (.ref b), some (.int a4.1), some (.int a4.2), some (.int v9.2.2.1), some (.int x2), some (.int v32.2.2.2), none]) (stJ := fun a4 => []) (mJ := fun a4 => m1) (fun a4 => ?_) (fun j82 hj82 => ?_)
            · refine pv_iinc (v := (v32.2.2.2 + 1)) (ls' := [some (.ref b), some (.int a4.1), some (.int a4.2), some (.int v9.2.2.1), some (.int x2), some (.int (v32.2.2.2 + 1)), none]) dX6_bestQuestion_82 rfl rfl (Nat.le_of_ble_eq_true rfl) rfl ?_
              refine pv_goto (tgt := 32) dX6_bestQuestion_85 (by decide) ?_
              exact hT32 (a4.1, a4.2, x2, (v32.2.2.2 + 1))
            · refine pv_icmp_ge (tgt := 82) dX6_bestQuestion_68 (by decide) ?_ ?_
              · refine pv_mask (ls' := [some (.ref b), some (.int v32.1), some (.int v32.2.1), some (.int v9.2.2.1), some (.int x2), some (.int v32.2.2.2), none]) [true, true, true, true, true, true, false] rfl ?_
                exact hj82 (v32.1, v32.2.1)
              · refine pv_iload dX6_bestQuestion_71 rfl ?_
                refine pv_istore_n (ls' := [some (.ref b), some (.int v32.1), some (.int x3), some (.int v9.2.2.1), some (.int x2), some (.int v32.2.2.2), some (.int x3)]) dX6_bestQuestion_73 (Nat.le_of_ble_eq_true rfl) rfl ?_
                refine pv_bipush (v := 100) dX6_bestQuestion_74 (by decide) ?_
                refine pv_iload_n dX6_bestQuestion_76 rfl ?_
                refine pv_imul dX6_bestQuestion_77 ?_
                refine pv_iload dX6_bestQuestion_78 rfl ?_
                refine pv_iadd dX6_bestQuestion_80 ?_
                refine pv_let (fun x5 => ?_)
                refine pv_istore_n (ls' := [some (.ref b), some (.int x5), some (.int x3), some (.int v9.2.2.1), some (.int x2), some (.int v32.2.2.2), some (.int x3)]) dX6_bestQuestion_81 (Nat.le_of_ble_eq_true rfl) rfl ?_
                refine pv_mask (ls' := [some (.ref b), some (.int x5), some (.int x3), some (.int v9.2.2.1), some (.int x2), some (.int v32.2.2.2), none]) [true, true, true, true, true, true, false] rfl ?_
                exact hj82 (x5, x3)
def f_X6_leftAtMost_b4 (b : Nat) (p1 : Int32) (μ : pm_M) (v4 : (Int32 × Int32)) (T4 : ((Int32 × Int32) → Option Int32)) (E4 : (Int32 → Option Int32)) : Option Int32 :=
  (if (μ b 2) ≤ v4.2 then (E4 v4.1) else pm_ck v4.2 410 ((f_X6_isDown (μ (b + 1) (Int32.toNatClampNeg v4.2)) (p1 / (100 : Int32)) (pm_rem p1 (100 : Int32))).bind (fun r1 => (pm_jn (fun (a2 : Int32) => (T4 (a2, (v4.2 + 1)))) (fun j35 => (if r1 = 0 then (j35 v4.1) else (j35 (v4.1 + 1))))))))
def f_X6_leftAtMost (b : Nat) (p1 : Int32) (μ : pm_M) : Option Int32 :=
  (pm_it (f_X6_leftAtMost_b4 b p1 μ) 5000 ((0 : Int32), (0 : Int32)) (fun e4 => pm_let (if e4 < ((μ b 2) - e4) then ((μ b 2) - e4) else e4) (fun x3 => (some x3))))
abbrev rm_X6_leftAtMost : Room := { frames := 2, cells := 0, slots := 0, locals := 43 }
set_option maxRecDepth 20000 in
set_option maxHeartbeats 2000000 in
theorem k_X6_leftAtMost (l : Launch) (sh : pm_S) (b : Nat) (hb : is_X6 sh b) (p1 : Int32) (μ : pm_M) : pm_Ok l yX6_leftAtMost cX6_leftAtMost 4 (some .int) rm_X6_leftAtMost [.ref b, .int p1] sh false sh 0 0 (fun r => (some (.int r), μ)) μ (f_X6_leftAtMost b p1 μ) := by
  obtain ⟨hb0, hb1, hb2⟩ := id hb
  refine pm_enter (own := RX6) (by decide) rfl (fun h => by cases h) (ls := [some (.ref b), some (.int p1), none, none]) rfl (fun _ => Nat.le_of_ble_eq_true rfl) ?_
  unfold f_X6_leftAtMost
  refine pv_iconst (v := 0) dX6_leftAtMost_0 (by decide) ?_
  refine pv_istore_n (ls' := [some (.ref b), some (.int p1), some (.int (0 : Int32)), none]) dX6_leftAtMost_1 (Nat.le_of_ble_eq_true rfl) rfl ?_
  refine pv_iconst (v := 0) dX6_leftAtMost_2 (by decide) ?_
  refine pv_istore_n (ls' := [some (.ref b), some (.int p1), some (.int (0 : Int32)), some (.int (0 : Int32))]) dX6_leftAtMost_3 (Nat.le_of_ble_eq_true rfl) rfl ?_
  refine pv_loop (body := (f_X6_leftAtMost_b4 b p1 μ)) (pcE := 41) (lsf := fun v4 => [some (.ref b), some (.int p1), some (.int v4.1), some (.int v4.2)]) (mf := fun v4 => μ) (lsE := fun e4 => [some (.ref b), none, some (.int e4), none]) (mE := fun e4 => μ) (fun e4 => ?_) (fun E4 hE4 T4 hT4 v4 => ?_) 5000 ((0 : Int32), (0 : Int32))
  · refine pv_iload_n dX6_leftAtMost_41 rfl ?_
    refine pv_aload_n dX6_leftAtMost_42 rfl ?_
    refine pv_geti dX6_leftAtMost_43 fl_X6_18 hb0 rfl ?_
    refine pv_iload_n dX6_leftAtMost_46 rfl ?_
    refine pv_isub dX6_leftAtMost_47 ?_
    refine pv_mmax dX6_leftAtMost_48 my_J9_max_7cf53 ⟨tw_589, tw_399⟩ (Nat.le_of_ble_eq_true rfl) (Nat.le_of_ble_eq_true rfl) ⟨Nat.zero_le _, Nat.zero_le _⟩ ?_
    refine pv_let (fun x3 => ?_)
    exact pv_iret dX6_leftAtMost_51 rfl rfl rfl
  · unfold f_X6_leftAtMost_b4
    refine pv_iload_n dX6_leftAtMost_4 rfl ?_
    refine pv_aload_n dX6_leftAtMost_5 rfl ?_
    refine pv_geti dX6_leftAtMost_6 fl_X6_18 hb0 rfl ?_
    refine pv_icmp_ge (tgt := 41) dX6_leftAtMost_9 (by decide) ?_ ?_
    · refine pv_mask (ls' := [some (.ref b), none, some (.int v4.1), none]) [true, false, true, false] rfl ?_
      exact hE4 v4.1
    · refine pv_aload_n dX6_leftAtMost_12 rfl ?_
      refine pv_getr dX6_leftAtMost_13 fl_X6_9 hb0 rfl ?_
      refine pv_iload_n dX6_leftAtMost_16 rfl ?_
      refine pv_iald dX6_leftAtMost_17 hb1 ?_
      refine pv_iload_n dX6_leftAtMost_18 rfl ?_
      refine pv_bipush (v := 100) dX6_leftAtMost_19 (by decide) ?_
      refine pv_idiv dX6_leftAtMost_21 (by decide) ?_
      refine pv_iload_n dX6_leftAtMost_22 rfl ?_
      refine pv_bipush (v := 100) dX6_leftAtMost_23 (by decide) ?_
      refine pv_irem dX6_leftAtMost_25 (by decide) ?_
      refine pv_cs_ri (rest := []) dX6_leftAtMost_26 my_X6_isDown sl_X6_34 (k_X6_isDown l sh (μ (b + 1) (Int32.toNatClampNeg v4.2)) (p1 / (100 : Int32)) (pm_rem p1 (100 : Int32)) μ) rfl ⟨rfl, rfl, Nat.le_of_ble_eq_true rfl, Nat.le_of_ble_eq_true rfl⟩ ⟨Nat.zero_le _, Nat.zero_le _⟩ (Nat.le_of_ble_eq_true rfl) rfl (fun r1 => ?_)
      refine pv_jn (pcJ := 35) (lsJ := fun a2 => [some (.ref b), some (.int p1), some (.int a2), some (.int v4.2)]) (stJ := fun a2 => []) (mJ := fun a2 => μ) (fun a2 => ?_) (fun j35 hj35 => ?_)
      · refine pv_iinc (v := (v4.2 + 1)) (ls' := [some (.ref b), some (.int p1), some (.int a2), some (.int (v4.2 + 1))]) dX6_leftAtMost_35 rfl rfl (Nat.le_of_ble_eq_true rfl) rfl ?_
        refine pv_goto (tgt := 4) dX6_leftAtMost_38 (by decide) ?_
        exact hT4 (a2, (v4.2 + 1))
      · refine pv_if_eq (tgt := 35) dX6_leftAtMost_29 (by decide) ?_ ?_
        · exact hj35 v4.1
        · refine pv_iinc (v := (v4.1 + 1)) (ls' := [some (.ref b), some (.int p1), some (.int (v4.1 + 1)), some (.int v4.2)]) dX6_leftAtMost_32 rfl rfl (Nat.le_of_ble_eq_true rfl) rfl ?_
          exact hj35 (v4.1 + 1)
