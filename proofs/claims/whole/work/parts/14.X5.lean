def f_X5_shortenBy_b10 (p1 : Int32) (v2 : (Int32 × pm_M)) (v10 : (Int32 × pm_M)) (T10 : ((Int32 × pm_M) → Option pm_M)) (E10 : (pm_M → Option pm_M)) : Option pm_M :=
  (if (7 : Int32) ≤ v10.1 then (E10 v10.2) else pm_ck (((7 : Int32) * v2.1) + p1) 49 (pm_ck (((7 : Int32) * p1) + v10.1) 49 (pm_let ((v10.2 46 (Int32.toNatClampNeg (((7 : Int32) * v2.1) + p1))) + (v10.2 46 (Int32.toNatClampNeg (((7 : Int32) * p1) + v10.1)))) (fun x1 => pm_ck (((7 : Int32) * v2.1) + v10.1) 49 ((pm_jn (fun (a2 : pm_M) => (T10 ((v10.1 + 1), a2))) (fun j70 => (if (v10.2 46 (Int32.toNatClampNeg (((7 : Int32) * v2.1) + v10.1))) ≤ x1 then (j70 v10.2) else pm_ck (((7 : Int32) * v2.1) + v10.1) 49 (pm_let (pm_up v10.2 46 (Int32.toNatClampNeg (((7 : Int32) * v2.1) + v10.1)) x1) (fun m3 => (j70 m3)))))))))))
def f_X5_shortenBy_b2 (p1 : Int32) (v2 : (Int32 × pm_M)) (T2 : ((Int32 × pm_M) → Option pm_M)) (E2 : (pm_M → Option pm_M)) : Option pm_M :=
  (if (7 : Int32) ≤ v2.1 then (E2 v2.2) else (pm_it (f_X5_shortenBy_b10 p1 v2) 5000 ((0 : Int32), v2.2) (fun e10 => (T2 ((v2.1 + 1), e10)))))
def f_X5_shortenBy (p1 : Int32) (μ : pm_M) : Option pm_M :=
  (pm_it (f_X5_shortenBy_b2 p1) 5000 ((0 : Int32), μ) (fun e2 => (some e2)))
abbrev rm_X5_shortenBy : Room := { frames := 0, cells := 0, slots := 0, locals := 0 }
set_option maxRecDepth 20000 in
set_option maxHeartbeats 2000000 in
theorem k_X5_shortenBy (l : Launch) (p1 : Int32) (μ : pm_M) : pm_Ok l yX5_shortenBy cX5_shortenBy 5 none rm_X5_shortenBy [.ref 45, .int p1] SH false SH 0 0 (fun r => (none, r)) μ (f_X5_shortenBy p1 μ) := by
  refine pm_enter (own := RX5) (by decide) rfl (fun h => by cases h) (ls := [some (.ref 45), some (.int p1), none, none, none]) rfl (fun _ => Nat.le_of_ble_eq_true rfl) ?_
  unfold f_X5_shortenBy
  refine pv_iconst (v := 0) dX5_shortenBy_0 (by decide) ?_
  refine pv_istore_n (ls' := [some (.ref 45), some (.int p1), some (.int (0 : Int32)), none, none]) dX5_shortenBy_1 (Nat.le_of_ble_eq_true rfl) rfl ?_
  refine pv_loop (body := (f_X5_shortenBy_b2 p1)) (pcE := 82) (lsf := fun v2 => [some (.ref 45), some (.int p1), some (.int v2.1), none, none]) (mf := fun v2 => v2.2) (lsE := fun e2 => [none, none, none, none, none]) (mE := fun e2 => e2) (fun e2 => ?_) (fun E2 hE2 T2 hT2 v2 => ?_) 5000 ((0 : Int32), μ)
  · exact pv_vret dX5_shortenBy_82 rfl rfl
  · unfold f_X5_shortenBy_b2
    refine pv_iload_n dX5_shortenBy_2 rfl ?_
    refine pv_bipush (v := 7) dX5_shortenBy_3 (by decide) ?_
    refine pv_icmp_ge (tgt := 82) dX5_shortenBy_5 (by decide) ?_ ?_
    · refine pv_mask (ls' := [none, none, none, none, none]) [false, false, false, false, false] rfl ?_
      exact hE2 v2.2
    · refine pv_iconst (v := 0) dX5_shortenBy_8 (by decide) ?_
      refine pv_istore_n (ls' := [some (.ref 45), some (.int p1), some (.int v2.1), some (.int (0 : Int32)), none]) dX5_shortenBy_9 (Nat.le_of_ble_eq_true rfl) rfl ?_
      refine pv_loop (body := (f_X5_shortenBy_b10 p1 v2)) (pcE := 76) (lsf := fun v10 => [some (.ref 45), some (.int p1), some (.int v2.1), some (.int v10.1), none]) (mf := fun v10 => v10.2) (lsE := fun e10 => [some (.ref 45), some (.int p1), some (.int v2.1), none, none]) (mE := fun e10 => e10) (fun e10 => ?_) (fun E10 hE10 T10 hT10 v10 => ?_) 5000 ((0 : Int32), v2.2)
      · refine pv_iinc (v := (v2.1 + 1)) (ls' := [some (.ref 45), some (.int p1), some (.int (v2.1 + 1)), none, none]) dX5_shortenBy_76 rfl rfl (Nat.le_of_ble_eq_true rfl) rfl ?_
        refine pv_goto (tgt := 2) dX5_shortenBy_79 (by decide) ?_
        exact hT2 ((v2.1 + 1), e10)
      · unfold f_X5_shortenBy_b10
        refine pv_iload_n dX5_shortenBy_10 rfl ?_
        refine pv_bipush (v := 7) dX5_shortenBy_11 (by decide) ?_
        refine pv_icmp_ge (tgt := 76) dX5_shortenBy_13 (by decide) ?_ ?_
        · refine pv_mask (ls' := [some (.ref 45), some (.int p1), some (.int v2.1), none, none]) [true, true, true, false, false] rfl ?_
          exact hE10 v10.2
        · refine pv_aload_n dX5_shortenBy_16 rfl ?_
          refine pv_getr dX5_shortenBy_17 fl_X5_9 sh_45 rfl ?_
          refine pv_bipush (v := 7) dX5_shortenBy_20 (by decide) ?_
          refine pv_iload_n dX5_shortenBy_22 rfl ?_
          refine pv_imul dX5_shortenBy_23 ?_
          refine pv_iload_n dX5_shortenBy_24 rfl ?_
          refine pv_iadd dX5_shortenBy_25 ?_
          refine pv_iald dX5_shortenBy_26 sh_46 ?_
          refine pv_aload_n dX5_shortenBy_27 rfl ?_
          refine pv_getr dX5_shortenBy_28 fl_X5_9 sh_45 rfl ?_
          refine pv_bipush (v := 7) dX5_shortenBy_31 (by decide) ?_
          refine pv_iload_n dX5_shortenBy_33 rfl ?_
          refine pv_imul dX5_shortenBy_34 ?_
          refine pv_iload_n dX5_shortenBy_35 rfl ?_
          refine pv_iadd dX5_shortenBy_36 ?_
          refine pv_iald dX5_shortenBy_37 sh_46 ?_
          refine pv_iadd dX5_shortenBy_38 ?_
          refine pv_let (fun x1 => ?_)
          refine pv_istore (ls' := [some (.ref 45), some (.int p1), some (.int v2.1), some (.int v10.1), some (.int x1)]) dX5_shortenBy_39 (Nat.le_of_ble_eq_true rfl) rfl ?_
          refine pv_iload dX5_shortenBy_41 rfl ?_
          refine pv_aload_n dX5_shortenBy_43 rfl ?_
          refine pv_getr dX5_shortenBy_44 fl_X5_9 sh_45 rfl ?_
          refine pv_bipush (v := 7) dX5_shortenBy_47 (by decide) ?_
          refine pv_iload_n dX5_shortenBy_49 rfl ?_
          refine pv_imul dX5_shortenBy_50 ?_
          refine pv_iload_n dX5_shortenBy_51 rfl ?_
          refine pv_iadd dX5_shortenBy_52 ?_
          refine pv_iald dX5_shortenBy_53 sh_46 ?_
          refine pv_jn (pcJ := 70) (lsJ := fun a2 => [some (.ref 45), some (.int p1), some (.int v2.1), some (.int v10.1), none]) (stJ := fun a2 => []) (mJ := fun a2 => a2) (fun a2 => ?_) (fun j70 hj70 => ?_)
          · refine pv_iinc (v := (v10.1 + 1)) (ls' := [some (.ref 45), some (.int p1), some (.int v2.1), some (.int (v10.1 + 1)), none]) dX5_shortenBy_70 rfl rfl (Nat.le_of_ble_eq_true rfl) rfl ?_
            refine pv_goto (tgt := 10) dX5_shortenBy_73 (by decide) ?_
            exact hT10 ((v10.1 + 1), a2)
          · refine pv_icmp_ge (tgt := 70) dX5_shortenBy_54 (by decide) ?_ ?_
            · refine pv_mask (ls' := [some (.ref 45), some (.int p1), some (.int v2.1), some (.int v10.1), none]) [true, true, true, true, false] rfl ?_
              exact hj70 v10.2
            · refine pv_aload_n dX5_shortenBy_57 rfl ?_
              refine pv_getr dX5_shortenBy_58 fl_X5_9 sh_45 rfl ?_
              refine pv_bipush (v := 7) dX5_shortenBy_61 (by decide) ?_
              refine pv_iload_n dX5_shortenBy_63 rfl ?_
              refine pv_imul dX5_shortenBy_64 ?_
              refine pv_iload_n dX5_shortenBy_65 rfl ?_
              refine pv_iadd dX5_shortenBy_66 ?_
              refine pv_iload dX5_shortenBy_67 rfl ?_
              refine pv_iast dX5_shortenBy_69 sh_46 ?_
              refine pv_letM (fun m3 => ?_)
              refine pv_mask (ls' := [some (.ref 45), some (.int p1), some (.int v2.1), some (.int v10.1), none]) [true, true, true, true, false] rfl ?_
              exact hj70 m3
def f_X5_measure_b10 (v2 : (Int32 × pm_M)) (v10 : (Int32 × pm_M)) (T10 : ((Int32 × pm_M) → Option pm_M)) (E10 : (pm_M → Option pm_M)) : Option pm_M :=
  (if (7 : Int32) ≤ v10.1 then (E10 v10.2) else (f_X2_milesBetween 2 v2.1 v10.1 v10.2).bind (fun r1 => (pm_jn (fun (a2 : Int32) => pm_ck (((7 : Int32) * v2.1) + v10.1) 49 (pm_let (pm_up v10.2 46 (Int32.toNatClampNeg (((7 : Int32) * v2.1) + v10.1)) a2) (fun m3 => (T10 ((v10.1 + 1), m3))))) (fun j47 => (if r1 ≤ 0 then (j47 (1000 : Int32)) else (j47 r1))))))
def f_X5_measure_b2  (v2 : (Int32 × pm_M)) (T2 : ((Int32 × pm_M) → Option pm_M)) (E2 : (pm_M → Option pm_M)) : Option pm_M :=
  (if (7 : Int32) ≤ v2.1 then (E2 v2.2) else (pm_it (f_X5_measure_b10 v2) 5000 ((0 : Int32), v2.2) (fun e10 => pm_ck (((7 : Int32) * v2.1) + v2.1) 49 (pm_let (pm_up e10 46 (Int32.toNatClampNeg (((7 : Int32) * v2.1) + v2.1)) (0 : Int32)) (fun m4 => (T2 ((v2.1 + 1), m4)))))))
def f_X5_measure_b74  (v74 : (Int32 × pm_M)) (T74 : ((Int32 × pm_M) → Option pm_M)) (E74 : (pm_M → Option pm_M)) : Option pm_M :=
  (if (7 : Int32) ≤ v74.1 then (E74 v74.2) else (f_X5_shortenBy v74.1 v74.2).bind (fun m5 => (T74 ((v74.1 + 1), m5))))
def f_X5_measure (μ : pm_M) : Option pm_M :=
  (pm_it f_X5_measure_b2 5000 ((0 : Int32), μ) (fun e2 => (pm_it f_X5_measure_b74 5000 ((0 : Int32), e2) (fun e74 => (some e74)))))
abbrev rm_X5_measure : Room := { frames := 2, cells := 0, slots := 0, locals := 42 }
set_option maxRecDepth 20000 in
set_option maxHeartbeats 2000000 in
theorem k_X5_measure (l : Launch) (μ : pm_M) : pm_Ok l yX5_measure cX5_measure 5 none rm_X5_measure [.ref 45, .ref 2] SH false SH 0 0 (fun r => (none, r)) μ (f_X5_measure μ) := by
  refine pm_enter (own := RX5) (by decide) rfl (fun h => by cases h) (ls := [some (.ref 45), some (.ref 2), none, none, none]) rfl (fun _ => Nat.le_of_ble_eq_true rfl) ?_
  unfold f_X5_measure
  refine pv_iconst (v := 0) dX5_measure_0 (by decide) ?_
  refine pv_istore_n (ls' := [some (.ref 45), some (.ref 2), some (.int (0 : Int32)), none, none]) dX5_measure_1 (Nat.le_of_ble_eq_true rfl) rfl ?_
  refine pv_loop (body := f_X5_measure_b2) (pcE := 72) (lsf := fun v2 => [some (.ref 45), some (.ref 2), some (.int v2.1), none, none]) (mf := fun v2 => v2.2) (lsE := fun e2 => [some (.ref 45), none, none, none, none]) (mE := fun e2 => e2) (fun e2 => ?_) (fun E2 hE2 T2 hT2 v2 => ?_) 5000 ((0 : Int32), μ)
  · refine pv_iconst (v := 0) dX5_measure_72 (by decide) ?_
    refine pv_istore_n (ls' := [some (.ref 45), none, some (.int (0 : Int32)), none, none]) dX5_measure_73 (Nat.le_of_ble_eq_true rfl) rfl ?_
    refine pv_loop (body := f_X5_measure_b74) (pcE := 91) (lsf := fun v74 => [some (.ref 45), none, some (.int v74.1), none, none]) (mf := fun v74 => v74.2) (lsE := fun e74 => [none, none, none, none, none]) (mE := fun e74 => e74) (fun e74 => ?_) (fun E74 hE74 T74 hT74 v74 => ?_) 5000 ((0 : Int32), e2)
    · exact pv_vret dX5_measure_91 rfl rfl
    · unfold f_X5_measure_b74
      refine pv_iload_n dX5_measure_74 rfl ?_
      refine pv_bipush (v := 7) dX5_measure_75 (by decide) ?_
      refine pv_icmp_ge (tgt := 91) dX5_measure_77 (by decide) ?_ ?_
      · refine pv_mask (ls' := [none, none, none, none, none]) [false, false, false, false, false] rfl ?_
        exact hE74 v74.2
      · refine pv_aload_n dX5_measure_80 rfl ?_
        refine pv_iload_n dX5_measure_81 rfl ?_
        refine pv_cv_wv (rest := []) dX5_measure_82 my_X5_shortenBy vl_X5_24 (k_X5_shortenBy l v74.1 v74.2) sh_45 rfl rfl ⟨rfl, rfl, Nat.le_of_ble_eq_true rfl, Nat.le_of_ble_eq_true rfl⟩ ⟨Nat.zero_le _, Nat.zero_le _⟩ (Nat.le_of_ble_eq_true rfl) rfl (fun m5 => ?_)
        refine pv_iinc (v := (v74.1 + 1)) (ls' := [some (.ref 45), none, some (.int (v74.1 + 1)), none, none]) dX5_measure_85 rfl rfl (Nat.le_of_ble_eq_true rfl) rfl ?_
        refine pv_goto (tgt := 74) dX5_measure_88 (by decide) ?_
        exact hT74 ((v74.1 + 1), m5)
  · unfold f_X5_measure_b2
    refine pv_iload_n dX5_measure_2 rfl ?_
    refine pv_bipush (v := 7) dX5_measure_3 (by decide) ?_
    refine pv_icmp_ge (tgt := 72) dX5_measure_5 (by decide) ?_ ?_
    · refine pv_mask (ls' := [some (.ref 45), none, none, none, none]) [true, false, false, false, false] rfl ?_
      exact hE2 v2.2
    · refine pv_iconst (v := 0) dX5_measure_8 (by decide) ?_
      refine pv_istore_n (ls' := [some (.ref 45), some (.ref 2), some (.int v2.1), some (.int (0 : Int32)), none]) dX5_measure_9 (Nat.le_of_ble_eq_true rfl) rfl ?_
      refine pv_loop (body := (f_X5_measure_b10 v2)) (pcE := 54) (lsf := fun v10 => [some (.ref 45), some (.ref 2), some (.int v2.1), some (.int v10.1), none]) (mf := fun v10 => v10.2) (lsE := fun e10 => [some (.ref 45), some (.ref 2), some (.int v2.1), none, none]) (mE := fun e10 => e10) (fun e10 => ?_) (fun E10 hE10 T10 hT10 v10 => ?_) 5000 ((0 : Int32), v2.2)
      · refine pv_aload_n dX5_measure_54 rfl ?_
        refine pv_getr dX5_measure_55 fl_X5_9 sh_45 rfl ?_
        refine pv_bipush (v := 7) dX5_measure_58 (by decide) ?_
        refine pv_iload_n dX5_measure_60 rfl ?_
        refine pv_imul dX5_measure_61 ?_
        refine pv_iload_n dX5_measure_62 rfl ?_
        refine pv_iadd dX5_measure_63 ?_
        refine pv_iconst (v := 0) dX5_measure_64 (by decide) ?_
        refine pv_iast dX5_measure_65 sh_46 ?_
        refine pv_letM (fun m4 => ?_)
        refine pv_iinc (v := (v2.1 + 1)) (ls' := [some (.ref 45), some (.ref 2), some (.int (v2.1 + 1)), none, none]) dX5_measure_66 rfl rfl (Nat.le_of_ble_eq_true rfl) rfl ?_
        refine pv_goto (tgt := 2) dX5_measure_69 (by decide) ?_
        exact hT2 ((v2.1 + 1), m4)
      · unfold f_X5_measure_b10
        refine pv_iload_n dX5_measure_10 rfl ?_
        refine pv_bipush (v := 7) dX5_measure_11 (by decide) ?_
        refine pv_icmp_ge (tgt := 54) dX5_measure_13 (by decide) ?_ ?_
        · refine pv_mask (ls' := [some (.ref 45), some (.ref 2), some (.int v2.1), none, none]) [true, true, true, false, false] rfl ?_
          exact hE10 v10.2
        · refine pv_aload_n dX5_measure_16 rfl ?_
          refine pv_iload_n dX5_measure_17 rfl ?_
          refine pv_iload_n dX5_measure_18 rfl ?_
          refine pv_cv_ri (rest := []) dX5_measure_19 my_X2_milesBetween vl_X5_18 (k_X2_milesBetween l SH 2 is_X2_2 v2.1 v10.1 v10.2) sh_2 rfl rfl ⟨rfl, rfl, Nat.le_of_ble_eq_true rfl, Nat.le_of_ble_eq_true rfl⟩ ⟨Nat.zero_le _, Nat.zero_le _⟩ (Nat.le_of_ble_eq_true rfl) rfl (fun r1 => ?_)
          refine pv_istore (ls' := [some (.ref 45), some (.ref 2), some (.int v2.1), some (.int v10.1), some (.int r1)]) dX5_measure_22 (Nat.le_of_ble_eq_true rfl) rfl ?_
          refine pv_aload_n dX5_measure_24 rfl ?_
          refine pv_getr dX5_measure_25 fl_X5_9 sh_45 rfl ?_
          refine pv_bipush (v := 7) dX5_measure_28 (by decide) ?_
          refine pv_iload_n dX5_measure_30 rfl ?_
          refine pv_imul dX5_measure_31 ?_
          refine pv_iload_n dX5_measure_32 rfl ?_
          refine pv_iadd dX5_measure_33 ?_
          refine pv_iload dX5_measure_34 rfl ?_
          refine pv_jn (pcJ := 47) (lsJ := fun a2 => [some (.ref 45), some (.ref 2), some (.int v2.1), some (.int v10.1), none]) (stJ := fun a2 => [.int a2, .int (((7 : Int32) * v2.1) + v10.1), .ref 46]) (mJ := fun a2 => v10.2) (fun a2 => ?_) (fun j47 hj47 => ?_)
          · refine pv_iast dX5_measure_47 sh_46 ?_
            refine pv_letM (fun m3 => ?_)
            refine pv_iinc (v := (v10.1 + 1)) (ls' := [some (.ref 45), some (.ref 2), some (.int v2.1), some (.int (v10.1 + 1)), none]) dX5_measure_48 rfl rfl (Nat.le_of_ble_eq_true rfl) rfl ?_
            refine pv_goto (tgt := 10) dX5_measure_51 (by decide) ?_
            exact hT10 ((v10.1 + 1), m3)
          · refine pv_if_le (tgt := 44) dX5_measure_36 (by decide) ?_ ?_
            · refine pv_sipush (v := 1000) dX5_measure_44 (by decide) ?_
              refine pv_mask (ls' := [some (.ref 45), some (.ref 2), some (.int v2.1), some (.int v10.1), none]) [true, true, true, true, false] rfl ?_
              exact hj47 (1000 : Int32)
            · refine pv_iload dX5_measure_39 rfl ?_
              refine pv_goto (tgt := 47) dX5_measure_41 (by decide) ?_
              refine pv_mask (ls' := [some (.ref 45), some (.ref 2), some (.int v2.1), some (.int v10.1), none]) [true, true, true, true, false] rfl ?_
              exact hj47 r1
def f_X5_milesOrNone (p0 : Int32) : Option Int32 :=
  (if (1000 : Int32) ≤ p0 then (some (-6 : Int32)) else (some p0))
abbrev rm_X5_milesOrNone : Room := { frames := 0, cells := 0, slots := 0, locals := 0 }
set_option maxRecDepth 20000 in
set_option maxHeartbeats 2000000 in
theorem k_X5_milesOrNone (l : Launch) (sh : pm_S) (p0 : Int32) (μ : pm_M) : pm_Ok l yX5_milesOrNone cX5_milesOrNone 1 (some .int) rm_X5_milesOrNone [.int p0] sh false sh 0 0 (fun r => (some (.int r), μ)) μ (f_X5_milesOrNone p0) := by
  refine pm_enter (own := RX5) (by decide) rfl (fun h => by cases h) (ls := [some (.int p0)]) rfl (fun _ => Nat.le_of_ble_eq_true rfl) ?_
  unfold f_X5_milesOrNone
  refine pv_iload_n dX5_milesOrNone_0 rfl ?_
  refine pv_sipush (v := 1000) dX5_milesOrNone_1 (by decide) ?_
  refine pv_icmp_ge (tgt := 11) dX5_milesOrNone_4 (by decide) ?_ ?_
  · refine pv_bipush (v := (-6)) dX5_milesOrNone_11 (by decide) ?_
    exact pv_iret dX5_milesOrNone_13 rfl rfl rfl
  · refine pv_iload_n dX5_milesOrNone_7 rfl ?_
    refine pv_goto (tgt := 13) dX5_milesOrNone_8 (by decide) ?_
    exact pv_iret dX5_milesOrNone_13 rfl rfl rfl
def f_X5_between (p1 : Int32) (p2 : Int32) (μ : pm_M) : Option Int32 :=
  (f_X9_isFarm p1).bind (fun r1 => (if r1 = 0 then (some (-6 : Int32)) else (f_X9_isFarm p2).bind (fun r2 => (if r2 = 0 then (some (-6 : Int32)) else pm_ck (((7 : Int32) * p1) + p2) 49 ((f_X5_milesOrNone (μ 46 (Int32.toNatClampNeg (((7 : Int32) * p1) + p2)))).bind (fun r3 => (some r3)))))))
abbrev rm_X5_between : Room := { frames := 1, cells := 0, slots := 0, locals := 20 }
set_option maxRecDepth 20000 in
set_option maxHeartbeats 2000000 in
theorem k_X5_between (l : Launch) (p1 : Int32) (p2 : Int32) (μ : pm_M) : pm_Ok l yX5_between cX5_between 3 (some .int) rm_X5_between [.ref 45, .int p1, .int p2] SH false SH 0 0 (fun r => (some (.int r), μ)) μ (f_X5_between p1 p2 μ) := by
  refine pm_enter (own := RX5) (by decide) rfl (fun h => by cases h) (ls := [some (.ref 45), some (.int p1), some (.int p2)]) rfl (fun _ => Nat.le_of_ble_eq_true rfl) ?_
  unfold f_X5_between
  refine pv_iload_n dX5_between_0 rfl ?_
  refine pv_cs_ri (rest := []) dX5_between_1 my_X9_isFarm sl_X5_28 (k_X9_isFarm l SH p1 μ) rfl ⟨rfl, rfl, Nat.le_of_ble_eq_true rfl, Nat.le_of_ble_eq_true rfl⟩ ⟨Nat.zero_le _, Nat.zero_le _⟩ (Nat.le_of_ble_eq_true rfl) rfl (fun r1 => ?_)
  refine pv_if_eq (tgt := 31) dX5_between_4 (by decide) ?_ ?_
  · refine pv_bipush (v := (-6)) dX5_between_31 (by decide) ?_
    exact pv_iret dX5_between_33 rfl rfl rfl
  · refine pv_iload_n dX5_between_7 rfl ?_
    refine pv_cs_ri (rest := []) dX5_between_8 my_X9_isFarm sl_X5_28 (k_X9_isFarm l SH p2 μ) rfl ⟨rfl, rfl, Nat.le_of_ble_eq_true rfl, Nat.le_of_ble_eq_true rfl⟩ ⟨Nat.zero_le _, Nat.zero_le _⟩ (Nat.le_of_ble_eq_true rfl) rfl (fun r2 => ?_)
    refine pv_if_eq (tgt := 31) dX5_between_11 (by decide) ?_ ?_
    · refine pv_bipush (v := (-6)) dX5_between_31 (by decide) ?_
      exact pv_iret dX5_between_33 rfl rfl rfl
    · refine pv_aload_n dX5_between_14 rfl ?_
      refine pv_getr dX5_between_15 fl_X5_9 sh_45 rfl ?_
      refine pv_bipush (v := 7) dX5_between_18 (by decide) ?_
      refine pv_iload_n dX5_between_20 rfl ?_
      refine pv_imul dX5_between_21 ?_
      refine pv_iload_n dX5_between_22 rfl ?_
      refine pv_iadd dX5_between_23 ?_
      refine pv_iald dX5_between_24 sh_46 ?_
      refine pv_cs_ri (rest := []) dX5_between_25 my_X5_milesOrNone sl_X5_32 (k_X5_milesOrNone l SH (μ 46 (Int32.toNatClampNeg (((7 : Int32) * p1) + p2))) μ) rfl ⟨rfl, rfl, Nat.le_of_ble_eq_true rfl, Nat.le_of_ble_eq_true rfl⟩ ⟨Nat.zero_le _, Nat.zero_le _⟩ (Nat.le_of_ble_eq_true rfl) rfl (fun r3 => ?_)
      refine pv_goto (tgt := 33) dX5_between_28 (by decide) ?_
      exact pv_iret dX5_between_33 rfl rfl rfl
def f_X5_lengthen_b3 (p1 : Int32) (p2 : Int32) (p3 : Int32) (v3 : (Int32 × pm_M)) (T3 : ((Int32 × pm_M) → Option pm_M)) (E3 : (pm_M → Option pm_M)) : Option pm_M :=
  (if (7 : Int32) ≤ v3.1 then (E3 v3.2) else (pm_jn (fun (a1 : pm_M) => (T3 ((v3.1 + 1), a1))) (fun j81 => (if ((p3 >>> (v3.1 &&& 31)) &&& (1 : Int32)) = (1 : Int32) then pm_ck (((7 : Int32) * p1) + p2) 896 (pm_ck (((7 : Int32) * p2) + v3.1) 49 (pm_let ((v3.2 47 (Int32.toNatClampNeg (((7 : Int32) * p1) + p2))) + (v3.2 46 (Int32.toNatClampNeg (((7 : Int32) * p2) + v3.1)))) (fun x2 => pm_let (((7 : Int32) * (p1 ||| ((1 : Int32) <<< (v3.1 &&& 31)))) + v3.1) (fun x3 => pm_ck x3 896 ((if (v3.2 47 (Int32.toNatClampNeg x3)) ≤ x2 then (j81 v3.2) else pm_ck x3 896 (pm_let (pm_up v3.2 47 (Int32.toNatClampNeg x3) x2) (fun m4 => (j81 m4))))))))) else (j81 v3.2)))))
def f_X5_lengthen (p1 : Int32) (p2 : Int32) (p3 : Int32) (μ : pm_M) : Option pm_M :=
  (pm_it (f_X5_lengthen_b3 p1 p2 p3) 5000 ((0 : Int32), μ) (fun e3 => (some e3)))
abbrev rm_X5_lengthen : Room := { frames := 0, cells := 0, slots := 0, locals := 0 }
set_option maxRecDepth 20000 in
set_option maxHeartbeats 2000000 in
theorem k_X5_lengthen (l : Launch) (p1 : Int32) (p2 : Int32) (p3 : Int32) (μ : pm_M) : pm_Ok l yX5_lengthen cX5_lengthen 7 none rm_X5_lengthen [.ref 45, .int p1, .int p2, .int p3] SH false SH 0 0 (fun r => (none, r)) μ (f_X5_lengthen p1 p2 p3 μ) := by
  refine pm_enter (own := RX5) (by decide) rfl (fun h => by cases h) (ls := [some (.ref 45), some (.int p1), some (.int p2), some (.int p3), none, none, none]) rfl (fun _ => Nat.le_of_ble_eq_true rfl) ?_
  unfold f_X5_lengthen
  refine pv_iconst (v := 0) dX5_lengthen_0 (by decide) ?_
  refine pv_istore (ls' := [some (.ref 45), some (.int p1), some (.int p2), some (.int p3), some (.int (0 : Int32)), none, none]) dX5_lengthen_1 (Nat.le_of_ble_eq_true rfl) rfl ?_
  refine pv_loop (body := (f_X5_lengthen_b3 p1 p2 p3)) (pcE := 87) (lsf := fun v3 => [some (.ref 45), some (.int p1), some (.int p2), some (.int p3), some (.int v3.1), none, none]) (mf := fun v3 => v3.2) (lsE := fun e3 => [none, none, none, none, none, none, none]) (mE := fun e3 => e3) (fun e3 => ?_) (fun E3 hE3 T3 hT3 v3 => ?_) 5000 ((0 : Int32), μ)
  · exact pv_vret dX5_lengthen_87 rfl rfl
  · unfold f_X5_lengthen_b3
    refine pv_iload dX5_lengthen_3 rfl ?_
    refine pv_bipush (v := 7) dX5_lengthen_5 (by decide) ?_
    refine pv_icmp_ge (tgt := 87) dX5_lengthen_7 (by decide) ?_ ?_
    · refine pv_mask (ls' := [none, none, none, none, none, none, none]) [false, false, false, false, false, false, false] rfl ?_
      exact hE3 v3.2
    · refine pv_iload_n dX5_lengthen_10 rfl ?_
      refine pv_iload dX5_lengthen_11 rfl ?_
      refine pv_ishr dX5_lengthen_13 ?_
      refine pv_iconst (v := 1) dX5_lengthen_14 (by decide) ?_
      refine pv_iand dX5_lengthen_15 ?_
      refine pv_iconst (v := 1) dX5_lengthen_16 (by decide) ?_
      refine pv_jn (pcJ := 81) (lsJ := fun a1 => [some (.ref 45), some (.int p1), some (.int p2), some (.int p3), some (.int v3.1), none, none]) (stJ := fun a1 => []) (mJ := fun a1 => a1) (fun a1 => ?_) (fun j81 hj81 => ?_)
      · refine pv_iinc (v := (v3.1 + 1)) (ls' := [some (.ref 45), some (.int p1), some (.int p2), some (.int p3), some (.int (v3.1 + 1)), none, none]) dX5_lengthen_81 rfl rfl (Nat.le_of_ble_eq_true rfl) rfl ?_
        refine pv_goto (tgt := 3) dX5_lengthen_84 (by decide) ?_
        exact hT3 ((v3.1 + 1), a1)
      · refine pv_icmp_ne (tgt := 81) dX5_lengthen_17 (by decide) ?_ ?_
        · exact hj81 v3.2
        · refine pv_aload_n dX5_lengthen_20 rfl ?_
          refine pv_getr dX5_lengthen_21 fl_X5_15 sh_45 rfl ?_
          refine pv_bipush (v := 7) dX5_lengthen_24 (by decide) ?_
          refine pv_iload_n dX5_lengthen_26 rfl ?_
          refine pv_imul dX5_lengthen_27 ?_
          refine pv_iload_n dX5_lengthen_28 rfl ?_
          refine pv_iadd dX5_lengthen_29 ?_
          refine pv_iald dX5_lengthen_30 sh_47 ?_
          refine pv_aload_n dX5_lengthen_31 rfl ?_
          refine pv_getr dX5_lengthen_32 fl_X5_9 sh_45 rfl ?_
          refine pv_bipush (v := 7) dX5_lengthen_35 (by decide) ?_
          refine pv_iload_n dX5_lengthen_37 rfl ?_
          refine pv_imul dX5_lengthen_38 ?_
          refine pv_iload dX5_lengthen_39 rfl ?_
          refine pv_iadd dX5_lengthen_41 ?_
          refine pv_iald dX5_lengthen_42 sh_46 ?_
          refine pv_iadd dX5_lengthen_43 ?_
          refine pv_let (fun x2 => ?_)
          refine pv_istore (ls' := [some (.ref 45), some (.int p1), some (.int p2), some (.int p3), some (.int v3.1), some (.int x2), none]) dX5_lengthen_44 (Nat.le_of_ble_eq_true rfl) rfl ?_
          refine pv_bipush (v := 7) dX5_lengthen_46 (by decide) ?_
          refine pv_iload_n dX5_lengthen_48 rfl ?_
          refine pv_iconst (v := 1) dX5_lengthen_49 (by decide) ?_
          refine pv_iload dX5_lengthen_50 rfl ?_
          refine pv_ishl dX5_lengthen_52 ?_
          refine pv_ior dX5_lengthen_53 ?_
          refine pv_imul dX5_lengthen_54 ?_
          refine pv_iload dX5_lengthen_55 rfl ?_
          refine pv_iadd dX5_lengthen_57 ?_
          refine pv_let (fun x3 => ?_)
          refine pv_istore (ls' := [some (.ref 45), some (.int p1), some (.int p2), some (.int p3), some (.int v3.1), some (.int x2), some (.int x3)]) dX5_lengthen_58 (Nat.le_of_ble_eq_true rfl) rfl ?_
          refine pv_iload dX5_lengthen_60 rfl ?_
          refine pv_aload_n dX5_lengthen_62 rfl ?_
          refine pv_getr dX5_lengthen_63 fl_X5_15 sh_45 rfl ?_
          refine pv_iload dX5_lengthen_66 rfl ?_
          refine pv_iald dX5_lengthen_68 sh_47 ?_
          refine pv_icmp_ge (tgt := 81) dX5_lengthen_69 (by decide) ?_ ?_
          · refine pv_mask (ls' := [some (.ref 45), some (.int p1), some (.int p2), some (.int p3), some (.int v3.1), none, none]) [true, true, true, true, true, false, false] rfl ?_
            exact hj81 v3.2
          · refine pv_aload_n dX5_lengthen_72 rfl ?_
            refine pv_getr dX5_lengthen_73 fl_X5_15 sh_45 rfl ?_
            refine pv_iload dX5_lengthen_76 rfl ?_
            refine pv_iload dX5_lengthen_78 rfl ?_
            refine pv_iast dX5_lengthen_80 sh_47 ?_
            refine pv_letM (fun m4 => ?_)
            refine pv_mask (ls' := [some (.ref 45), some (.int p1), some (.int p2), some (.int p3), some (.int v3.1), none, none]) [true, true, true, true, true, false, false] rfl ?_
            exact hj81 m4
def f_X5_leastHome_b7 (p1 : Int32) (p2 : Int32) (μ : pm_M) (v7 : (Int32 × Int32)) (T7 : ((Int32 × Int32) → Option Int32)) (E7 : (Int32 → Option Int32)) : Option Int32 :=
  (if (7 : Int32) ≤ v7.2 then (E7 v7.1) else pm_ck (((7 : Int32) * p2) + v7.2) 896 (pm_ck (((7 : Int32) * v7.2) + p1) 49 (pm_let (if ((μ 47 (Int32.toNatClampNeg (((7 : Int32) * p2) + v7.2))) + (μ 46 (Int32.toNatClampNeg (((7 : Int32) * v7.2) + p1)))) < v7.1 then ((μ 47 (Int32.toNatClampNeg (((7 : Int32) * p2) + v7.2))) + (μ 46 (Int32.toNatClampNeg (((7 : Int32) * v7.2) + p1)))) else v7.1) (fun x1 => (T7 (x1, (v7.2 + 1)))))))
def f_X5_leastHome (p1 : Int32) (p2 : Int32) (μ : pm_M) : Option Int32 :=
  (pm_it (f_X5_leastHome_b7 p1 p2 μ) 5000 ((1000 : Int32), (0 : Int32)) (fun e7 => (some e7)))
abbrev rm_X5_leastHome : Room := { frames := 1, cells := 0, slots := 0, locals := 21 }
set_option maxRecDepth 20000 in
set_option maxHeartbeats 2000000 in
theorem k_X5_leastHome (l : Launch) (p1 : Int32) (p2 : Int32) (μ : pm_M) : pm_Ok l yX5_leastHome cX5_leastHome 5 (some .int) rm_X5_leastHome [.ref 45, .int p1, .int p2] SH false SH 0 0 (fun r => (some (.int r), μ)) μ (f_X5_leastHome p1 p2 μ) := by
  refine pm_enter (own := RX5) (by decide) rfl (fun h => by cases h) (ls := [some (.ref 45), some (.int p1), some (.int p2), none, none]) rfl (fun _ => Nat.le_of_ble_eq_true rfl) ?_
  unfold f_X5_leastHome
  refine pv_sipush (v := 1000) dX5_leastHome_0 (by decide) ?_
  refine pv_istore_n (ls' := [some (.ref 45), some (.int p1), some (.int p2), some (.int (1000 : Int32)), none]) dX5_leastHome_3 (Nat.le_of_ble_eq_true rfl) rfl ?_
  refine pv_iconst (v := 0) dX5_leastHome_4 (by decide) ?_
  refine pv_istore (ls' := [some (.ref 45), some (.int p1), some (.int p2), some (.int (1000 : Int32)), some (.int (0 : Int32))]) dX5_leastHome_5 (Nat.le_of_ble_eq_true rfl) rfl ?_
  refine pv_loop (body := (f_X5_leastHome_b7 p1 p2 μ)) (pcE := 50) (lsf := fun v7 => [some (.ref 45), some (.int p1), some (.int p2), some (.int v7.1), some (.int v7.2)]) (mf := fun v7 => μ) (lsE := fun e7 => [none, none, none, some (.int e7), none]) (mE := fun e7 => μ) (fun e7 => ?_) (fun E7 hE7 T7 hT7 v7 => ?_) 5000 ((1000 : Int32), (0 : Int32))
  · refine pv_iload_n dX5_leastHome_50 rfl ?_
    exact pv_iret dX5_leastHome_51 rfl rfl rfl
  · unfold f_X5_leastHome_b7
    refine pv_iload dX5_leastHome_7 rfl ?_
    refine pv_bipush (v := 7) dX5_leastHome_9 (by decide) ?_
    refine pv_icmp_ge (tgt := 50) dX5_leastHome_11 (by decide) ?_ ?_
    · refine pv_mask (ls' := [none, none, none, some (.int v7.1), none]) [false, false, false, true, false] rfl ?_
      exact hE7 v7.1
    · refine pv_iload_n dX5_leastHome_14 rfl ?_
      refine pv_aload_n dX5_leastHome_15 rfl ?_
      refine pv_getr dX5_leastHome_16 fl_X5_15 sh_45 rfl ?_
      refine pv_bipush (v := 7) dX5_leastHome_19 (by decide) ?_
      refine pv_iload_n dX5_leastHome_21 rfl ?_
      refine pv_imul dX5_leastHome_22 ?_
      refine pv_iload dX5_leastHome_23 rfl ?_
      refine pv_iadd dX5_leastHome_25 ?_
      refine pv_iald dX5_leastHome_26 sh_47 ?_
      refine pv_aload_n dX5_leastHome_27 rfl ?_
      refine pv_getr dX5_leastHome_28 fl_X5_9 sh_45 rfl ?_
      refine pv_bipush (v := 7) dX5_leastHome_31 (by decide) ?_
      refine pv_iload dX5_leastHome_33 rfl ?_
      refine pv_imul dX5_leastHome_35 ?_
      refine pv_iload_n dX5_leastHome_36 rfl ?_
      refine pv_iadd dX5_leastHome_37 ?_
      refine pv_iald dX5_leastHome_38 sh_46 ?_
      refine pv_iadd dX5_leastHome_39 ?_
      refine pv_mmin dX5_leastHome_40 my_J9_min_7cf53 ⟨tw_506, tw_396⟩ (Nat.le_of_ble_eq_true rfl) (Nat.le_of_ble_eq_true rfl) ⟨Nat.zero_le _, Nat.zero_le _⟩ ?_
      refine pv_let (fun x1 => ?_)
      refine pv_istore_n (ls' := [some (.ref 45), some (.int p1), some (.int p2), some (.int x1), some (.int v7.2)]) dX5_leastHome_43 (Nat.le_of_ble_eq_true rfl) rfl ?_
      refine pv_iinc (v := (v7.2 + 1)) (ls' := [some (.ref 45), some (.int p1), some (.int p2), some (.int x1), some (.int (v7.2 + 1))]) dX5_leastHome_44 rfl rfl (Nat.le_of_ble_eq_true rfl) rfl ?_
      refine pv_goto (tgt := 7) dX5_leastHome_47 (by decide) ?_
      exact hT7 (x1, (v7.2 + 1))
def f_X5_tour_b46 (p2 : Int32) (v36 : (Int32 × pm_M)) (v46 : (Int32 × pm_M)) (T46 : ((Int32 × pm_M) → Option (Int32 × pm_M))) (E46 : (pm_M → Option (Int32 × pm_M))) : Option (Int32 × pm_M) :=
  (if (7 : Int32) ≤ v46.1 then (E46 v46.2) else pm_ck (((7 : Int32) * v36.1) + v46.1) 896 ((pm_jn (fun (a4 : pm_M) => (T46 ((v46.1 + 1), a4))) (fun j83 => (if (1000 : Int32) ≤ (v46.2 47 (Int32.toNatClampNeg (((7 : Int32) * v36.1) + v46.1))) then (j83 v46.2) else (f_X5_lengthen v36.1 v46.1 (p2 &&& (v36.1 ^^^ (-1 : Int32))) v46.2).bind (fun m5 => (j83 m5)))))))
def f_X5_tour_b36 (p2 : Int32) (v36 : (Int32 × pm_M)) (T36 : ((Int32 × pm_M) → Option (Int32 × pm_M))) (E36 : (pm_M → Option (Int32 × pm_M))) : Option (Int32 × pm_M) :=
  (if (128 : Int32) ≤ v36.1 then (E36 v36.2) else (pm_it (f_X5_tour_b46 p2 v36) 5000 ((0 : Int32), v36.2) (fun e46 => (T36 ((v36.1 + 1), e46)))))
def f_X5_tour (p1 : Int32) (p2 : Int32) (μ : pm_M) : Option (Int32 × pm_M) :=
  (f_X9_isFarm p1).bind (fun r1 => (if r1 = 0 then (some ((-6 : Int32), μ)) else (f_J7_fill_53178 47 896 (1000 : Int32) μ).bind (fun m2 => pm_ck (((7 : Int32) * ((1 : Int32) <<< (p1 &&& 31))) + p1) 896 (pm_let (pm_up m2 47 (Int32.toNatClampNeg (((7 : Int32) * ((1 : Int32) <<< (p1 &&& 31))) + p1)) (0 : Int32)) (fun m3 => (pm_it (f_X5_tour_b36 p2) 5000 ((0 : Int32), m3) (fun e36 => (f_X5_leastHome p1 ((p2 ||| ((1 : Int32) <<< (p1 &&& 31))) &&& (127 : Int32)) e36).bind (fun r6 => (f_X5_milesOrNone r6).bind (fun r7 => (some (r7, e36)))))))))))
abbrev rm_X5_tour : Room := { frames := 2, cells := 0, slots := 0, locals := 45 }
set_option maxRecDepth 20000 in
set_option maxHeartbeats 2000000 in
theorem k_X5_tour (l : Launch) (p1 : Int32) (p2 : Int32) (μ : pm_M) : pm_Ok l yX5_tour cX5_tour 5 (some .int) rm_X5_tour [.ref 45, .int p1, .int p2] SH false SH 0 0 (fun r => (some (.int r.1), r.2)) μ (f_X5_tour p1 p2 μ) := by
  refine pm_enter (own := RX5) (by decide) rfl (fun h => by cases h) (ls := [some (.ref 45), some (.int p1), some (.int p2), none, none]) rfl (fun _ => Nat.le_of_ble_eq_true rfl) ?_
  unfold f_X5_tour
  refine pv_iload_n dX5_tour_0 rfl ?_
  refine pv_cs_ri (rest := []) dX5_tour_1 my_X9_isFarm sl_X5_28 (k_X9_isFarm l SH p1 μ) rfl ⟨rfl, rfl, Nat.le_of_ble_eq_true rfl, Nat.le_of_ble_eq_true rfl⟩ ⟨Nat.zero_le _, Nat.zero_le _⟩ (Nat.le_of_ble_eq_true rfl) rfl (fun r1 => ?_)
  refine pv_if_ne (tgt := 10) dX5_tour_4 (by decide) ?_ ?_
  · refine pv_aload_n dX5_tour_10 rfl ?_
    refine pv_getr dX5_tour_11 fl_X5_15 sh_45 rfl ?_
    refine pv_sipush (v := 1000) dX5_tour_14 (by decide) ?_
    refine pv_cs_wv (rest := []) dX5_tour_17 my_J7_fill_53178 sl_X5_36 (k_J7_fill_53178 l SH 47 896 sh_47 (1000 : Int32) μ) rfl ⟨rfl, rfl, Nat.le_of_ble_eq_true rfl, Nat.le_of_ble_eq_true rfl⟩ ⟨Nat.zero_le _, Nat.zero_le _⟩ (Nat.le_of_ble_eq_true rfl) rfl (fun m2 => ?_)
    refine pv_aload_n dX5_tour_20 rfl ?_
    refine pv_getr dX5_tour_21 fl_X5_15 sh_45 rfl ?_
    refine pv_bipush (v := 7) dX5_tour_24 (by decide) ?_
    refine pv_iconst (v := 1) dX5_tour_26 (by decide) ?_
    refine pv_iload_n dX5_tour_27 rfl ?_
    refine pv_ishl dX5_tour_28 ?_
    refine pv_imul dX5_tour_29 ?_
    refine pv_iload_n dX5_tour_30 rfl ?_
    refine pv_iadd dX5_tour_31 ?_
    refine pv_iconst (v := 0) dX5_tour_32 (by decide) ?_
    refine pv_iast dX5_tour_33 sh_47 ?_
    refine pv_letM (fun m3 => ?_)
    refine pv_iconst (v := 0) dX5_tour_34 (by decide) ?_
    refine pv_istore_n (ls' := [some (.ref 45), some (.int p1), some (.int p2), some (.int (0 : Int32)), none]) dX5_tour_35 (Nat.le_of_ble_eq_true rfl) rfl ?_
    refine pv_loop (body := (f_X5_tour_b36 p2)) (pcE := 95) (lsf := fun v36 => [some (.ref 45), some (.int p1), some (.int p2), some (.int v36.1), none]) (mf := fun v36 => v36.2) (lsE := fun e36 => [some (.ref 45), some (.int p1), some (.int p2), none, none]) (mE := fun e36 => e36) (fun e36 => ?_) (fun E36 hE36 T36 hT36 v36 => ?_) 5000 ((0 : Int32), m3)
    · refine pv_aload_n dX5_tour_95 rfl ?_
      refine pv_iload_n dX5_tour_96 rfl ?_
      refine pv_iload_n dX5_tour_97 rfl ?_
      refine pv_iconst (v := 1) dX5_tour_98 (by decide) ?_
      refine pv_iload_n dX5_tour_99 rfl ?_
      refine pv_ishl dX5_tour_100 ?_
      refine pv_ior dX5_tour_101 ?_
      refine pv_bipush (v := 127) dX5_tour_102 (by decide) ?_
      refine pv_iand dX5_tour_104 ?_
      refine pv_cv_ri (rest := []) dX5_tour_105 my_X5_leastHome vl_X5_46 (k_X5_leastHome l p1 ((p2 ||| ((1 : Int32) <<< (p1 &&& 31))) &&& (127 : Int32)) e36) sh_45 rfl rfl ⟨rfl, rfl, Nat.le_of_ble_eq_true rfl, Nat.le_of_ble_eq_true rfl⟩ ⟨Nat.zero_le _, Nat.zero_le _⟩ (Nat.le_of_ble_eq_true rfl) rfl (fun r6 => ?_)
      refine pv_cs_ri (rest := []) dX5_tour_108 my_X5_milesOrNone sl_X5_32 (k_X5_milesOrNone l SH r6 e36) rfl ⟨rfl, rfl, Nat.le_of_ble_eq_true rfl, Nat.le_of_ble_eq_true rfl⟩ ⟨Nat.zero_le _, Nat.zero_le _⟩ (Nat.le_of_ble_eq_true rfl) rfl (fun r7 => ?_)
      exact pv_iret dX5_tour_111 rfl rfl rfl
    · unfold f_X5_tour_b36
      refine pv_iload_n dX5_tour_36 rfl ?_
      refine pv_sipush (v := 128) dX5_tour_37 (by decide) ?_
      refine pv_icmp_ge (tgt := 95) dX5_tour_40 (by decide) ?_ ?_
      · refine pv_mask (ls' := [some (.ref 45), some (.int p1), some (.int p2), none, none]) [true, true, true, false, false] rfl ?_
        exact hE36 v36.2
      · refine pv_iconst (v := 0) dX5_tour_43 (by decide) ?_
        refine pv_istore (ls' := [some (.ref 45), some (.int p1), some (.int p2), some (.int v36.1), some (.int (0 : Int32))]) dX5_tour_44 (Nat.le_of_ble_eq_true rfl) rfl ?_
        refine pv_loop (body := (f_X5_tour_b46 p2 v36)) (pcE := 89) (lsf := fun v46 => [some (.ref 45), some (.int p1), some (.int p2), some (.int v36.1), some (.int v46.1)]) (mf := fun v46 => v46.2) (lsE := fun e46 => [some (.ref 45), some (.int p1), some (.int p2), some (.int v36.1), none]) (mE := fun e46 => e46) (fun e46 => ?_) (fun E46 hE46 T46 hT46 v46 => ?_) 5000 ((0 : Int32), v36.2)
        · refine pv_iinc (v := (v36.1 + 1)) (ls' := [some (.ref 45), some (.int p1), some (.int p2), some (.int (v36.1 + 1)), none]) dX5_tour_89 rfl rfl (Nat.le_of_ble_eq_true rfl) rfl ?_
          refine pv_goto (tgt := 36) dX5_tour_92 (by decide) ?_
          exact hT36 ((v36.1 + 1), e46)
        · unfold f_X5_tour_b46
          refine pv_iload dX5_tour_46 rfl ?_
          refine pv_bipush (v := 7) dX5_tour_48 (by decide) ?_
          refine pv_icmp_ge (tgt := 89) dX5_tour_50 (by decide) ?_ ?_
          · refine pv_mask (ls' := [some (.ref 45), some (.int p1), some (.int p2), some (.int v36.1), none]) [true, true, true, true, false] rfl ?_
            exact hE46 v46.2
          · refine pv_aload_n dX5_tour_53 rfl ?_
            refine pv_getr dX5_tour_54 fl_X5_15 sh_45 rfl ?_
            refine pv_bipush (v := 7) dX5_tour_57 (by decide) ?_
            refine pv_iload_n dX5_tour_59 rfl ?_
            refine pv_imul dX5_tour_60 ?_
            refine pv_iload dX5_tour_61 rfl ?_
            refine pv_iadd dX5_tour_63 ?_
            refine pv_iald dX5_tour_64 sh_47 ?_
            refine pv_sipush (v := 1000) dX5_tour_65 (by decide) ?_
            refine pv_jn (pcJ := 83) (lsJ := fun a4 => [some (.ref 45), some (.int p1), some (.int p2), some (.int v36.1), some (.int v46.1)]) (stJ := fun a4 => []) (mJ := fun a4 => a4) (fun a4 => ?_) (fun j83 hj83 => ?_)
            · refine pv_iinc (v := (v46.1 + 1)) (ls' := [some (.ref 45), some (.int p1), some (.int p2), some (.int v36.1), some (.int (v46.1 + 1))]) dX5_tour_83 rfl rfl (Nat.le_of_ble_eq_true rfl) rfl ?_
              refine pv_goto (tgt := 46) dX5_tour_86 (by decide) ?_
              exact hT46 ((v46.1 + 1), a4)
            · refine pv_icmp_ge (tgt := 83) dX5_tour_68 (by decide) ?_ ?_
              · exact hj83 v46.2
              · refine pv_aload_n dX5_tour_71 rfl ?_
                refine pv_iload_n dX5_tour_72 rfl ?_
                refine pv_iload dX5_tour_73 rfl ?_
                refine pv_iload_n dX5_tour_75 rfl ?_
                refine pv_iload_n dX5_tour_76 rfl ?_
                refine pv_iconst (v := (-1)) dX5_tour_77 (by decide) ?_
                refine pv_ixor dX5_tour_78 ?_
                refine pv_iand dX5_tour_79 ?_
                refine pv_cv_wv (rest := []) dX5_tour_80 my_X5_lengthen vl_X5_42 (k_X5_lengthen l v36.1 v46.1 (p2 &&& (v36.1 ^^^ (-1 : Int32))) v46.2) sh_45 rfl rfl ⟨rfl, rfl, Nat.le_of_ble_eq_true rfl, Nat.le_of_ble_eq_true rfl⟩ ⟨Nat.zero_le _, Nat.zero_le _⟩ (Nat.le_of_ble_eq_true rfl) rfl (fun m5 => ?_)
                exact hj83 m5
  · refine pv_bipush (v := (-6)) dX5_tour_7 (by decide) ?_
    exact pv_iret dX5_tour_9 rfl rfl rfl
