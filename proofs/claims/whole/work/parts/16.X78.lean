def f_X7_begin (μ : pm_M) : Option pm_M :=
  pm_let (pm_up μ 44 0 (0 : Int32)) (fun m1 => pm_let (pm_up m1 44 1 (-6 : Int32)) (fun m2 => pm_let (pm_up m2 44 2 (-6 : Int32)) (fun m3 => pm_let (pm_up m3 44 3 (0 : Int32)) (fun m4 => pm_let (pm_up m4 44 4 (-6 : Int32)) (fun m5 => pm_let (pm_up m5 44 5 (-6 : Int32)) (fun m6 => (some m6)))))))
abbrev rm_X7_begin : Room := { frames := 0, cells := 0, slots := 0, locals := 0 }
set_option maxRecDepth 20000 in
set_option maxHeartbeats 2000000 in
theorem k_X7_begin (l : Launch) (μ : pm_M) : pm_Ok l yX7_begin cX7_begin 1 none rm_X7_begin [.ref 44] SH false SH 0 0 (fun r => (none, r)) μ (f_X7_begin μ) := by
  refine pm_enter (own := RX7) (by decide) rfl (fun h => by cases h) (ls := [some (.ref 44)]) rfl (fun _ => Nat.le_of_ble_eq_true rfl) ?_
  unfold f_X7_begin
  refine pv_aload_n dX7_begin_0 rfl ?_
  refine pv_iconst (v := 0) dX7_begin_1 (by decide) ?_
  refine pv_puti dX7_begin_2 fp_X7_9 sh_44 rfl rfl rfl ?_
  refine pv_letM (fun m1 => ?_)
  refine pv_aload_n dX7_begin_5 rfl ?_
  refine pv_bipush (v := (-6)) dX7_begin_6 (by decide) ?_
  refine pv_puti dX7_begin_8 fp_X7_15 sh_44 rfl rfl rfl ?_
  refine pv_letM (fun m2 => ?_)
  refine pv_aload_n dX7_begin_11 rfl ?_
  refine pv_bipush (v := (-6)) dX7_begin_12 (by decide) ?_
  refine pv_puti dX7_begin_14 fp_X7_18 sh_44 rfl rfl rfl ?_
  refine pv_letM (fun m3 => ?_)
  refine pv_aload_n dX7_begin_17 rfl ?_
  refine pv_iconst (v := 0) dX7_begin_18 (by decide) ?_
  refine pv_puti dX7_begin_19 fp_X7_21 sh_44 rfl rfl rfl ?_
  refine pv_letM (fun m4 => ?_)
  refine pv_aload_n dX7_begin_22 rfl ?_
  refine pv_bipush (v := (-6)) dX7_begin_23 (by decide) ?_
  refine pv_puti dX7_begin_25 fp_X7_24 sh_44 rfl rfl rfl ?_
  refine pv_letM (fun m5 => ?_)
  refine pv_aload_n dX7_begin_28 rfl ?_
  refine pv_bipush (v := (-6)) dX7_begin_29 (by decide) ?_
  refine pv_puti dX7_begin_31 fp_X7_27 sh_44 rfl rfl rfl ?_
  refine pv_letM (fun m6 => ?_)
  exact pv_vret dX7_begin_34 rfl rfl
def f_X7_noteGap (p1 : Int32) (μ : pm_M) : Option pm_M :=
  (if p1 = (-6 : Int32) then (some μ) else (if (μ 44 5) = (-6 : Int32) then pm_let (pm_up μ 44 5 p1) (fun m1 => pm_let (pm_up m1 44 4 (m1 44 0)) (fun m2 => (some m2))) else (some μ)))
abbrev rm_X7_noteGap : Room := { frames := 0, cells := 0, slots := 0, locals := 0 }
set_option maxRecDepth 20000 in
set_option maxHeartbeats 2000000 in
theorem k_X7_noteGap (l : Launch) (p1 : Int32) (μ : pm_M) : pm_Ok l yX7_noteGap cX7_noteGap 2 none rm_X7_noteGap [.ref 44, .int p1] SH false SH 0 0 (fun r => (none, r)) μ (f_X7_noteGap p1 μ) := by
  refine pm_enter (own := RX7) (by decide) rfl (fun h => by cases h) (ls := [some (.ref 44), some (.int p1)]) rfl (fun _ => Nat.le_of_ble_eq_true rfl) ?_
  unfold f_X7_noteGap
  refine pv_iload_n dX7_noteGap_0 rfl ?_
  refine pv_bipush (v := (-6)) dX7_noteGap_1 (by decide) ?_
  refine pv_icmp_eq (tgt := 28) dX7_noteGap_3 (by decide) ?_ ?_
  · exact pv_vret dX7_noteGap_28 rfl rfl
  · refine pv_aload_n dX7_noteGap_6 rfl ?_
    refine pv_geti dX7_noteGap_7 fl_X7_27 sh_44 rfl ?_
    refine pv_bipush (v := (-6)) dX7_noteGap_10 (by decide) ?_
    refine pv_icmp_ne (tgt := 28) dX7_noteGap_12 (by decide) ?_ ?_
    · exact pv_vret dX7_noteGap_28 rfl rfl
    · refine pv_aload_n dX7_noteGap_15 rfl ?_
      refine pv_iload_n dX7_noteGap_16 rfl ?_
      refine pv_puti dX7_noteGap_17 fp_X7_27 sh_44 rfl rfl rfl ?_
      refine pv_letM (fun m1 => ?_)
      refine pv_aload_n dX7_noteGap_20 rfl ?_
      refine pv_aload_n dX7_noteGap_21 rfl ?_
      refine pv_geti dX7_noteGap_22 fl_X7_9 sh_44 rfl ?_
      refine pv_puti dX7_noteGap_25 fp_X7_24 sh_44 rfl rfl rfl ?_
      refine pv_letM (fun m2 => ?_)
      exact pv_vret dX7_noteGap_28 rfl rfl
def f_X7_runAct (p2 : Int32) (p3 : Int32) (p4 : Int32) (μ : pm_M) : Option pm_M :=
  (f_X2_whyNot 37 p2 p3 p4 μ).bind (fun r1 => (if r1 = 0 then (pm_jn (fun (a2 : pm_M) => (f_X2_gapMadeBy 37 p2 p3 p4 a2).bind (fun r3 => (f_X7_noteGap r3 a2).bind (fun m4 => (f_X2_perform 37 p2 p3 p4 m4).bind (fun m5 => pm_let (pm_up m5 44 0 ((m5 44 0) + (1 : Int32))) (fun m6 => (some m6)))))) (fun j54 => (if p2 = 0 then (f_X2_placeOf 37 p3 μ).bind (fun r7 => (f_X2_milesBetween 37 r7 p4 μ).bind (fun r8 => pm_let (pm_up μ 44 3 ((μ 44 3) + r8)) (fun m9 => (j54 m9)))) else (j54 μ)))) else pm_let (pm_up μ 44 1 (μ 44 0)) (fun m10 => pm_let (pm_up m10 44 2 r1) (fun m11 => (some m11)))))
abbrev rm_X7_runAct : Room := { frames := 5, cells := 0, slots := 0, locals := 109 }
set_option maxRecDepth 20000 in
set_option maxHeartbeats 2000000 in
theorem k_X7_runAct (l : Launch) (p2 : Int32) (p3 : Int32) (p4 : Int32) (μ : pm_M) : pm_Ok l yX7_runAct cX7_runAct 6 none rm_X7_runAct [.ref 44, .ref 37, .int p2, .int p3, .int p4] SH false SH 0 0 (fun r => (none, r)) μ (f_X7_runAct p2 p3 p4 μ) := by
  refine pm_enter (own := RX7) (by decide) rfl (fun h => by cases h) (ls := [some (.ref 44), some (.ref 37), some (.int p2), some (.int p3), some (.int p4), none]) rfl (fun _ => Nat.le_of_ble_eq_true rfl) ?_
  unfold f_X7_runAct
  refine pv_aload_n dX7_runAct_0 rfl ?_
  refine pv_iload_n dX7_runAct_1 rfl ?_
  refine pv_iload_n dX7_runAct_2 rfl ?_
  refine pv_iload dX7_runAct_3 rfl ?_
  refine pv_cv_ri (rest := []) dX7_runAct_5 my_X2_whyNot vl_X7_66 (k_X2_whyNot l SH 37 is_X2_37 p2 p3 p4 μ) sh_37 rfl rfl ⟨rfl, rfl, Nat.le_of_ble_eq_true rfl, Nat.le_of_ble_eq_true rfl⟩ ⟨Nat.zero_le _, Nat.zero_le _⟩ (Nat.le_of_ble_eq_true rfl) rfl (fun r1 => ?_)
  refine pv_istore (ls' := [some (.ref 44), some (.ref 37), some (.int p2), some (.int p3), some (.int p4), some (.int r1)]) dX7_runAct_8 (Nat.le_of_ble_eq_true rfl) rfl ?_
  refine pv_iload dX7_runAct_10 rfl ?_
  refine pv_if_eq (tgt := 30) dX7_runAct_12 (by decide) ?_ ?_
  · refine pv_iload_n dX7_runAct_30 rfl ?_
    refine pv_jn (pcJ := 54) (lsJ := fun a2 => [some (.ref 44), some (.ref 37), some (.int p2), some (.int p3), some (.int p4), none]) (stJ := fun a2 => []) (mJ := fun a2 => a2) (fun a2 => ?_) (fun j54 hj54 => ?_)
    · refine pv_aload_n dX7_runAct_54 rfl ?_
      refine pv_aload_n dX7_runAct_55 rfl ?_
      refine pv_iload_n dX7_runAct_56 rfl ?_
      refine pv_iload_n dX7_runAct_57 rfl ?_
      refine pv_iload dX7_runAct_58 rfl ?_
      refine pv_cv_ri (rest := [.ref 44]) dX7_runAct_60 my_X2_gapMadeBy vl_X7_76 (k_X2_gapMadeBy l SH 37 is_X2_37 p2 p3 p4 a2) sh_37 rfl rfl ⟨rfl, rfl, Nat.le_of_ble_eq_true rfl, Nat.le_of_ble_eq_true rfl⟩ ⟨Nat.zero_le _, Nat.zero_le _⟩ (Nat.le_of_ble_eq_true rfl) rfl (fun r3 => ?_)
      refine pv_cv_wv (rest := []) dX7_runAct_63 my_X7_noteGap vl_X7_79 (k_X7_noteGap l r3 a2) sh_44 rfl rfl ⟨rfl, rfl, Nat.le_of_ble_eq_true rfl, Nat.le_of_ble_eq_true rfl⟩ ⟨Nat.zero_le _, Nat.zero_le _⟩ (Nat.le_of_ble_eq_true rfl) rfl (fun m4 => ?_)
      refine pv_aload_n dX7_runAct_66 rfl ?_
      refine pv_iload_n dX7_runAct_67 rfl ?_
      refine pv_iload_n dX7_runAct_68 rfl ?_
      refine pv_iload dX7_runAct_69 rfl ?_
      refine pv_cv_wv (rest := []) dX7_runAct_71 my_X2_perform vl_X7_83 (k_X2_perform l SH 37 is_X2_37 p2 p3 p4 m4) sh_37 rfl rfl ⟨rfl, rfl, Nat.le_of_ble_eq_true rfl, Nat.le_of_ble_eq_true rfl⟩ ⟨Nat.zero_le _, Nat.zero_le _⟩ (Nat.le_of_ble_eq_true rfl) rfl (fun m5 => ?_)
      refine pv_aload_n dX7_runAct_74 rfl ?_
      refine pv_dup dX7_runAct_75 rfl ?_
      refine pv_geti dX7_runAct_76 fl_X7_9 sh_44 rfl ?_
      refine pv_iconst (v := 1) dX7_runAct_79 (by decide) ?_
      refine pv_iadd dX7_runAct_80 ?_
      refine pv_puti dX7_runAct_81 fp_X7_9 sh_44 rfl rfl rfl ?_
      refine pv_letM (fun m6 => ?_)
      exact pv_vret dX7_runAct_84 rfl rfl
    · refine pv_if_ne (tgt := 54) dX7_runAct_31 (by decide) ?_ ?_
      · refine pv_mask (ls' := [some (.ref 44), some (.ref 37), some (.int p2), some (.int p3), some (.int p4), none]) [true, true, true, true, true, false] rfl ?_
        exact hj54 μ
      · refine pv_aload_n dX7_runAct_34 rfl ?_
        refine pv_dup dX7_runAct_35 rfl ?_
        refine pv_geti dX7_runAct_36 fl_X7_21 sh_44 rfl ?_
        refine pv_aload_n dX7_runAct_39 rfl ?_
        refine pv_aload_n dX7_runAct_40 rfl ?_
        refine pv_iload_n dX7_runAct_41 rfl ?_
        refine pv_cv_ri (rest := [.ref 37, .int (μ 44 3), .ref 44]) dX7_runAct_42 my_X2_placeOf vl_X7_70 (k_X2_placeOf l SH 37 is_X2_37 p3 μ) sh_37 rfl rfl ⟨rfl, rfl, Nat.le_of_ble_eq_true rfl, Nat.le_of_ble_eq_true rfl⟩ ⟨Nat.zero_le _, Nat.zero_le _⟩ (Nat.le_of_ble_eq_true rfl) rfl (fun r7 => ?_)
        refine pv_iload dX7_runAct_45 rfl ?_
        refine pv_cv_ri (rest := [.int (μ 44 3), .ref 44]) dX7_runAct_47 my_X2_milesBetween vl_X7_73 (k_X2_milesBetween l SH 37 is_X2_37 r7 p4 μ) sh_37 rfl rfl ⟨rfl, rfl, Nat.le_of_ble_eq_true rfl, Nat.le_of_ble_eq_true rfl⟩ ⟨Nat.zero_le _, Nat.zero_le _⟩ (Nat.le_of_ble_eq_true rfl) rfl (fun r8 => ?_)
        refine pv_iadd dX7_runAct_50 ?_
        refine pv_puti dX7_runAct_51 fp_X7_21 sh_44 rfl rfl rfl ?_
        refine pv_letM (fun m9 => ?_)
        refine pv_mask (ls' := [some (.ref 44), some (.ref 37), some (.int p2), some (.int p3), some (.int p4), none]) [true, true, true, true, true, false] rfl ?_
        exact hj54 m9
  · refine pv_aload_n dX7_runAct_15 rfl ?_
    refine pv_aload_n dX7_runAct_16 rfl ?_
    refine pv_geti dX7_runAct_17 fl_X7_9 sh_44 rfl ?_
    refine pv_puti dX7_runAct_20 fp_X7_15 sh_44 rfl rfl rfl ?_
    refine pv_letM (fun m10 => ?_)
    refine pv_aload_n dX7_runAct_23 rfl ?_
    refine pv_iload dX7_runAct_24 rfl ?_
    refine pv_puti dX7_runAct_26 fp_X7_18 sh_44 rfl rfl rfl ?_
    refine pv_letM (fun m11 => ?_)
    exact pv_vret dX7_runAct_29 rfl rfl
def f_X7_canBe_b26  (v26 : (Int32 × Int32 × pm_M)) (T26 : ((Int32 × Int32 × pm_M) → Option (Int32 × pm_M))) (E26 : (pm_M → Option (Int32 × pm_M))) : Option (Int32 × pm_M) :=
  (if (60 : Int32) ≤ v26.2.1 then (E26 v26.2.2) else (f_X3_size v26.2.2).bind (fun r4 => (if r4 ≤ v26.1 then (E26 v26.2.2) else (if (v26.2.2 44 1) = (-6 : Int32) then (f_X3_kindAt v26.1 v26.2.2).bind (fun r5 => (f_X3_manAt v26.1 v26.2.2).bind (fun r6 => (f_X3_numberAt v26.1 r5 v26.2.2).bind (fun r7 => (f_X7_runAct r5 r6 r7 v26.2.2).bind (fun m8 => (f_X3_lengthOf r5).bind (fun r9 => pm_let (v26.1 + r9) (fun x10 => (T26 (x10, (v26.2.1 + 1), m8)))))))) else (E26 v26.2.2)))))
def f_X7_canBe (μ : pm_M) : Option (Int32 × pm_M) :=
  (f_X3_faultPlace μ).bind (fun r1 => (if r1 = (-6 : Int32) then (f_X7_begin μ).bind (fun m2 => (f_X2_copyFrom 37 2 m2).bind (fun m3 => (pm_it f_X7_canBe_b26 5000 ((0 : Int32), (0 : Int32), m3) (fun e26 => (if (e26 44 1) = (-6 : Int32) then (some ((1 : Int32), e26)) else (some ((0 : Int32), e26))))))) else (some ((0 : Int32), μ))))
abbrev rm_X7_canBe : Room := { frames := 6, cells := 0, slots := 0, locals := 134 }
set_option maxRecDepth 20000 in
set_option maxHeartbeats 2000000 in
theorem k_X7_canBe (l : Launch) (μ : pm_M) : pm_Ok l yX7_canBe cX7_canBe 7 (some .boolean) rm_X7_canBe [.ref 44, .ref 42, .ref 2, .ref 37] SH false SH 0 0 (fun r => (some (.int r.1), r.2)) μ (f_X7_canBe μ) := by
  refine pm_enter (own := RX7) (by decide) rfl (fun h => by cases h) (ls := [some (.ref 44), some (.ref 42), some (.ref 2), some (.ref 37), none, none, none]) rfl (fun _ => Nat.le_of_ble_eq_true rfl) ?_
  unfold f_X7_canBe
  refine pv_aload_n dX7_canBe_0 rfl ?_
  refine pv_cv_ri (rest := []) dX7_canBe_1 my_X3_faultPlace vl_X7_30 (k_X3_faultPlace l μ) sh_42 rfl rfl ⟨rfl, rfl, Nat.le_of_ble_eq_true rfl, Nat.le_of_ble_eq_true rfl⟩ ⟨Nat.zero_le _, Nat.zero_le _⟩ (Nat.le_of_ble_eq_true rfl) rfl (fun r1 => ?_)
  refine pv_bipush (v := (-6)) dX7_canBe_4 (by decide) ?_
  refine pv_icmp_eq (tgt := 11) dX7_canBe_6 (by decide) ?_ ?_
  · refine pv_aload_n dX7_canBe_11 rfl ?_
    refine pv_cv_wv (rest := []) dX7_canBe_12 my_X7_begin vl_X7_36 (k_X7_begin l μ) sh_44 rfl rfl ⟨rfl, rfl, Nat.le_of_ble_eq_true rfl, Nat.le_of_ble_eq_true rfl⟩ ⟨Nat.zero_le _, Nat.zero_le _⟩ (Nat.le_of_ble_eq_true rfl) rfl (fun m2 => ?_)
    refine pv_aload_n dX7_canBe_15 rfl ?_
    refine pv_aload_n dX7_canBe_16 rfl ?_
    refine pv_cv_wv (rest := []) dX7_canBe_17 my_X2_copyFrom vl_X7_39 (k_X2_copyFrom l SH 37 is_X2_37 2 is_X2_2 m2) sh_37 rfl rfl ⟨rfl, rfl, Nat.le_of_ble_eq_true rfl, Nat.le_of_ble_eq_true rfl⟩ ⟨Nat.zero_le _, Nat.zero_le _⟩ (Nat.le_of_ble_eq_true rfl) rfl (fun m3 => ?_)
    refine pv_iconst (v := 0) dX7_canBe_20 (by decide) ?_
    refine pv_istore (ls' := [some (.ref 44), some (.ref 42), some (.ref 2), some (.ref 37), some (.int (0 : Int32)), none, none]) dX7_canBe_21 (Nat.le_of_ble_eq_true rfl) rfl ?_
    refine pv_iconst (v := 0) dX7_canBe_23 (by decide) ?_
    refine pv_istore (ls' := [some (.ref 44), some (.ref 42), some (.ref 2), some (.ref 37), some (.int (0 : Int32)), some (.int (0 : Int32)), none]) dX7_canBe_24 (Nat.le_of_ble_eq_true rfl) rfl ?_
    refine pv_mask (ls' := [some (.ref 44), some (.ref 42), none, some (.ref 37), some (.int (0 : Int32)), some (.int (0 : Int32)), none]) [true, true, false, true, true, true, false] rfl ?_
    refine pv_loop (body := f_X7_canBe_b26) (pcE := 96) (lsf := fun v26 => [some (.ref 44), some (.ref 42), none, some (.ref 37), some (.int v26.1), some (.int v26.2.1), none]) (mf := fun v26 => v26.2.2) (lsE := fun e26 => [some (.ref 44), none, none, none, none, none, none]) (mE := fun e26 => e26) (fun e26 => ?_) (fun E26 hE26 T26 hT26 v26 => ?_) 5000 ((0 : Int32), (0 : Int32), m3)
    · refine pv_aload_n dX7_canBe_96 rfl ?_
      refine pv_geti dX7_canBe_97 fl_X7_15 sh_44 rfl ?_
      refine pv_bipush (v := (-6)) dX7_canBe_100 (by decide) ?_
      refine pv_icmp_ne (tgt := 109) dX7_canBe_102 (by decide) ?_ ?_
      · refine pv_iconst (v := 0) dX7_canBe_109 (by decide) ?_
        exact pv_iret dX7_canBe_110 rfl rfl rfl
      · refine pv_iconst (v := 1) dX7_canBe_105 (by decide) ?_
        refine pv_goto (tgt := 110) dX7_canBe_106 (by decide) ?_
        exact pv_iret dX7_canBe_110 rfl rfl rfl
    · unfold f_X7_canBe_b26
      refine pv_iload dX7_canBe_26 rfl ?_
      refine pv_bipush (v := 60) dX7_canBe_28 (by decide) ?_
      refine pv_icmp_ge (tgt := 96) dX7_canBe_30 (by decide) ?_ ?_
      · refine pv_mask (ls' := [some (.ref 44), none, none, none, none, none, none]) [true, false, false, false, false, false, false] rfl ?_
        exact hE26 v26.2.2
      · refine pv_iload dX7_canBe_33 rfl ?_
        refine pv_aload_n dX7_canBe_35 rfl ?_
        refine pv_cv_ri (rest := [.int v26.1]) dX7_canBe_36 my_X3_size vl_X7_45 (k_X3_size l v26.2.2) sh_42 rfl rfl ⟨rfl, rfl, Nat.le_of_ble_eq_true rfl, Nat.le_of_ble_eq_true rfl⟩ ⟨Nat.zero_le _, Nat.zero_le _⟩ (Nat.le_of_ble_eq_true rfl) rfl (fun r4 => ?_)
        refine pv_icmp_ge (tgt := 96) dX7_canBe_39 (by decide) ?_ ?_
        · refine pv_mask (ls' := [some (.ref 44), none, none, none, none, none, none]) [true, false, false, false, false, false, false] rfl ?_
          exact hE26 v26.2.2
        · refine pv_aload_n dX7_canBe_42 rfl ?_
          refine pv_geti dX7_canBe_43 fl_X7_15 sh_44 rfl ?_
          refine pv_bipush (v := (-6)) dX7_canBe_46 (by decide) ?_
          refine pv_icmp_ne (tgt := 96) dX7_canBe_48 (by decide) ?_ ?_
          · refine pv_mask (ls' := [some (.ref 44), none, none, none, none, none, none]) [true, false, false, false, false, false, false] rfl ?_
            exact hE26 v26.2.2
          · refine pv_aload_n dX7_canBe_51 rfl ?_
            refine pv_iload dX7_canBe_52 rfl ?_
            refine pv_cv_ri (rest := []) dX7_canBe_54 my_X3_kindAt vl_X7_48 (k_X3_kindAt l v26.1 v26.2.2) sh_42 rfl rfl ⟨rfl, rfl, Nat.le_of_ble_eq_true rfl, Nat.le_of_ble_eq_true rfl⟩ ⟨Nat.zero_le _, Nat.zero_le _⟩ (Nat.le_of_ble_eq_true rfl) rfl (fun r5 => ?_)
            refine pv_istore (ls' := [some (.ref 44), some (.ref 42), none, some (.ref 37), some (.int v26.1), some (.int v26.2.1), some (.int r5)]) dX7_canBe_57 (Nat.le_of_ble_eq_true rfl) rfl ?_
            refine pv_aload_n dX7_canBe_59 rfl ?_
            refine pv_aload_n dX7_canBe_60 rfl ?_
            refine pv_iload dX7_canBe_61 rfl ?_
            refine pv_aload_n dX7_canBe_63 rfl ?_
            refine pv_iload dX7_canBe_64 rfl ?_
            refine pv_cv_ri (rest := [.int r5, .ref 37, .ref 44]) dX7_canBe_66 my_X3_manAt vl_X7_52 (k_X3_manAt l v26.1 v26.2.2) sh_42 rfl rfl ⟨rfl, rfl, Nat.le_of_ble_eq_true rfl, Nat.le_of_ble_eq_true rfl⟩ ⟨Nat.zero_le _, Nat.zero_le _⟩ (Nat.le_of_ble_eq_true rfl) rfl (fun r6 => ?_)
            refine pv_aload_n dX7_canBe_69 rfl ?_
            refine pv_iload dX7_canBe_70 rfl ?_
            refine pv_iload dX7_canBe_72 rfl ?_
            refine pv_cv_ri (rest := [.int r6, .int r5, .ref 37, .ref 44]) dX7_canBe_74 my_X3_numberAt vl_X7_55 (k_X3_numberAt l v26.1 r5 v26.2.2) sh_42 rfl rfl ⟨rfl, rfl, Nat.le_of_ble_eq_true rfl, Nat.le_of_ble_eq_true rfl⟩ ⟨Nat.zero_le _, Nat.zero_le _⟩ (Nat.le_of_ble_eq_true rfl) rfl (fun r7 => ?_)
            refine pv_cv_wv (rest := []) dX7_canBe_77 my_X7_runAct vl_X7_59 (k_X7_runAct l r5 r6 r7 v26.2.2) sh_44 rfl rfl ⟨rfl, rfl, Nat.le_of_ble_eq_true rfl, Nat.le_of_ble_eq_true rfl⟩ ⟨Nat.zero_le _, Nat.zero_le _⟩ (Nat.le_of_ble_eq_true rfl) rfl (fun m8 => ?_)
            refine pv_iload dX7_canBe_80 rfl ?_
            refine pv_iload dX7_canBe_82 rfl ?_
            refine pv_cs_ri (rest := [.int v26.1]) dX7_canBe_84 my_X3_lengthOf sl_X7_63 (k_X3_lengthOf l SH r5 m8) rfl ⟨rfl, rfl, Nat.le_of_ble_eq_true rfl, Nat.le_of_ble_eq_true rfl⟩ ⟨Nat.zero_le _, Nat.zero_le _⟩ (Nat.le_of_ble_eq_true rfl) rfl (fun r9 => ?_)
            refine pv_iadd dX7_canBe_87 ?_
            refine pv_let (fun x10 => ?_)
            refine pv_istore (ls' := [some (.ref 44), some (.ref 42), none, some (.ref 37), some (.int x10), some (.int v26.2.1), some (.int r5)]) dX7_canBe_88 (Nat.le_of_ble_eq_true rfl) rfl ?_
            refine pv_iinc (v := (v26.2.1 + 1)) (ls' := [some (.ref 44), some (.ref 42), none, some (.ref 37), some (.int x10), some (.int (v26.2.1 + 1)), some (.int r5)]) dX7_canBe_90 rfl rfl (Nat.le_of_ble_eq_true rfl) rfl ?_
            refine pv_goto (tgt := 26) dX7_canBe_93 (by decide) ?_
            refine pv_mask (ls' := [some (.ref 44), some (.ref 42), none, some (.ref 37), some (.int x10), some (.int (v26.2.1 + 1)), none]) [true, true, false, true, true, true, false] rfl ?_
            exact hT26 (x10, (v26.2.1 + 1), m8)
  · refine pv_iconst (v := 0) dX7_canBe_9 (by decide) ?_
    exact pv_iret dX7_canBe_10 rfl rfl rfl
def f_X8_copyFrom (b : Nat) (c : Nat) (μ : pm_M) : Option pm_M :=
  (f_X2_copyFrom (b + 1) (c + 1) μ).bind (fun m1 => (f_X1_copyFrom (b + 6) (c + 6) m1).bind (fun m2 => (f_X6_copyFrom (b + 9) (c + 9) m2).bind (fun m3 => (some m3))))
abbrev rm_X8_copyFrom : Room := { frames := 2, cells := 0, slots := 0, locals := 39 }
set_option maxRecDepth 20000 in
set_option maxHeartbeats 2000000 in
theorem k_X8_copyFrom (l : Launch) (sh : pm_S) (b : Nat) (hb : is_X8 sh b) (c : Nat) (hc : is_X8 sh c) (μ : pm_M) : pm_Ok l yX8_copyFrom cX8_copyFrom 2 none rm_X8_copyFrom [.ref b, .ref c] sh false sh 0 0 (fun r => (none, r)) μ (f_X8_copyFrom b c μ) := by
  obtain ⟨hb0, hb_1, hb_6, hb_9⟩ := id hb
  obtain ⟨hc0, hc_1, hc_6, hc_9⟩ := id hc
  refine pm_enter (own := RX8) (by decide) rfl (fun h => by cases h) (ls := [some (.ref b), some (.ref c)]) rfl (fun _ => Nat.le_of_ble_eq_true rfl) ?_
  unfold f_X8_copyFrom
  refine pv_aload_n dX8_copyFrom_0 rfl ?_
  refine pv_getr dX8_copyFrom_1 fl_X8_10 hb0 rfl ?_
  refine pv_aload_n dX8_copyFrom_4 rfl ?_
  refine pv_getr dX8_copyFrom_5 fl_X8_10 hc0 rfl ?_
  refine pv_cv_wv (rest := []) dX8_copyFrom_8 my_X2_copyFrom vl_X8_34 (k_X2_copyFrom l sh (b + 1) hb_1 (c + 1) hc_1 μ) hb_1.1 rfl rfl ⟨rfl, rfl, Nat.le_of_ble_eq_true rfl, Nat.le_of_ble_eq_true rfl⟩ ⟨Nat.zero_le _, Nat.zero_le _⟩ (Nat.le_of_ble_eq_true rfl) rfl (fun m1 => ?_)
  refine pv_aload_n dX8_copyFrom_11 rfl ?_
  refine pv_getr dX8_copyFrom_12 fl_X8_19 hb0 rfl ?_
  refine pv_aload_n dX8_copyFrom_15 rfl ?_
  refine pv_getr dX8_copyFrom_16 fl_X8_19 hc0 rfl ?_
  refine pv_cv_wv (rest := []) dX8_copyFrom_19 my_X1_copyFrom vl_X8_38 (k_X1_copyFrom l sh (b + 6) hb_6 (c + 6) hc_6 m1) hb_6.1 rfl rfl ⟨rfl, rfl, Nat.le_of_ble_eq_true rfl, Nat.le_of_ble_eq_true rfl⟩ ⟨Nat.zero_le _, Nat.zero_le _⟩ (Nat.le_of_ble_eq_true rfl) rfl (fun m2 => ?_)
  refine pv_aload_n dX8_copyFrom_22 rfl ?_
  refine pv_getr dX8_copyFrom_23 fl_X8_26 hb0 rfl ?_
  refine pv_aload_n dX8_copyFrom_26 rfl ?_
  refine pv_getr dX8_copyFrom_27 fl_X8_26 hc0 rfl ?_
  refine pv_cv_wv (rest := []) dX8_copyFrom_30 my_X6_copyFrom vl_X8_41 (k_X6_copyFrom l sh (b + 9) hb_9 (c + 9) hc_9 m2) hb_9.1 rfl rfl ⟨rfl, rfl, Nat.le_of_ble_eq_true rfl, Nat.le_of_ble_eq_true rfl⟩ ⟨Nat.zero_le _, Nat.zero_le _⟩ (Nat.le_of_ble_eq_true rfl) rfl (fun m3 => ?_)
  exact pv_vret dX8_copyFrom_33 rfl rfl
