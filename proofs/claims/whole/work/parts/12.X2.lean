def f_X2_copyFrom (b : Nat) (c : Nat) (μ : pm_M) : Option pm_M :=
  pm_let (pm_cp μ (c + 1) (b + 1) 49) (fun m1 => pm_let (pm_cp m1 (c + 2) (b + 2) 49) (fun m2 => pm_let (pm_cp m2 (c + 3) (b + 3) 7) (fun m3 => pm_let (pm_cp m3 (c + 4) (b + 4) 7) (fun m4 => pm_let (pm_up m4 b 4 (m4 c 4)) (fun m5 => (some m5))))))
abbrev rm_X2_copyFrom : Room := { frames := 1, cells := 0, slots := 0, locals := 18 }
set_option maxRecDepth 20000 in
set_option maxHeartbeats 2000000 in
theorem k_X2_copyFrom (l : Launch) (sh : pm_S) (b : Nat) (hb : is_X2 sh b) (c : Nat) (hc : is_X2 sh c) (μ : pm_M) : pm_Ok l yX2_copyFrom cX2_copyFrom 2 none rm_X2_copyFrom [.ref b, .ref c] sh false sh 0 0 (fun r => (none, r)) μ (f_X2_copyFrom b c μ) := by
  obtain ⟨hb0, hb1, hb2, hb3, hb4⟩ := id hb
  obtain ⟨hc0, hc1, hc2, hc3, hc4⟩ := id hc
  refine pm_enter (own := RX2) (by decide) rfl (fun h => by cases h) (ls := [some (.ref b), some (.ref c)]) rfl (fun _ => Nat.le_of_ble_eq_true rfl) ?_
  unfold f_X2_copyFrom
  refine pv_aload_n dX2_copyFrom_0 rfl ?_
  refine pv_getr dX2_copyFrom_1 fl_X2_9 hc0 rfl ?_
  refine pv_iconst (v := 0) dX2_copyFrom_4 (by decide) ?_
  refine pv_aload_n dX2_copyFrom_5 rfl ?_
  refine pv_getr dX2_copyFrom_6 fl_X2_9 hb0 rfl ?_
  refine pv_iconst (v := 0) dX2_copyFrom_9 (by decide) ?_
  refine pv_bipush (v := 49) dX2_copyFrom_10 (by decide) ?_
  refine pv_copy (N := 49) dX2_copyFrom_12 ac_X2_34.1 ac_X2_34.2.1 ac_X2_34.2.2.1 ac_X2_34.2.2.2 hc1 hb1 (by decide) rfl (Nat.le_of_ble_eq_true rfl) (Nat.le_of_ble_eq_true rfl) (Nat.le_of_ble_eq_true rfl) (Nat.le_of_ble_eq_true rfl) ?_
  refine pv_letM (fun m1 => ?_)
  refine pv_aload_n dX2_copyFrom_15 rfl ?_
  refine pv_getr dX2_copyFrom_16 fl_X2_15 hc0 rfl ?_
  refine pv_iconst (v := 0) dX2_copyFrom_19 (by decide) ?_
  refine pv_aload_n dX2_copyFrom_20 rfl ?_
  refine pv_getr dX2_copyFrom_21 fl_X2_15 hb0 rfl ?_
  refine pv_iconst (v := 0) dX2_copyFrom_24 (by decide) ?_
  refine pv_bipush (v := 49) dX2_copyFrom_25 (by decide) ?_
  refine pv_copy (N := 49) dX2_copyFrom_27 ac_X2_34.1 ac_X2_34.2.1 ac_X2_34.2.2.1 ac_X2_34.2.2.2 hc2 hb2 (by decide) rfl (Nat.le_of_ble_eq_true rfl) (Nat.le_of_ble_eq_true rfl) (Nat.le_of_ble_eq_true rfl) (Nat.le_of_ble_eq_true rfl) ?_
  refine pv_letM (fun m2 => ?_)
  refine pv_aload_n dX2_copyFrom_30 rfl ?_
  refine pv_getr dX2_copyFrom_31 fl_X2_18 hc0 rfl ?_
  refine pv_iconst (v := 0) dX2_copyFrom_34 (by decide) ?_
  refine pv_aload_n dX2_copyFrom_35 rfl ?_
  refine pv_getr dX2_copyFrom_36 fl_X2_18 hb0 rfl ?_
  refine pv_iconst (v := 0) dX2_copyFrom_39 (by decide) ?_
  refine pv_bipush (v := 7) dX2_copyFrom_40 (by decide) ?_
  refine pv_copy (N := 7) dX2_copyFrom_42 ac_X2_34.1 ac_X2_34.2.1 ac_X2_34.2.2.1 ac_X2_34.2.2.2 hc3 hb3 (by decide) rfl (Nat.le_of_ble_eq_true rfl) (Nat.le_of_ble_eq_true rfl) (Nat.le_of_ble_eq_true rfl) (Nat.le_of_ble_eq_true rfl) ?_
  refine pv_letM (fun m3 => ?_)
  refine pv_aload_n dX2_copyFrom_45 rfl ?_
  refine pv_getr dX2_copyFrom_46 fl_X2_21 hc0 rfl ?_
  refine pv_iconst (v := 0) dX2_copyFrom_49 (by decide) ?_
  refine pv_aload_n dX2_copyFrom_50 rfl ?_
  refine pv_getr dX2_copyFrom_51 fl_X2_21 hb0 rfl ?_
  refine pv_iconst (v := 0) dX2_copyFrom_54 (by decide) ?_
  refine pv_bipush (v := 7) dX2_copyFrom_55 (by decide) ?_
  refine pv_copy (N := 7) dX2_copyFrom_57 ac_X2_34.1 ac_X2_34.2.1 ac_X2_34.2.2.1 ac_X2_34.2.2.2 hc4 hb4 (by decide) rfl (Nat.le_of_ble_eq_true rfl) (Nat.le_of_ble_eq_true rfl) (Nat.le_of_ble_eq_true rfl) (Nat.le_of_ble_eq_true rfl) ?_
  refine pv_letM (fun m4 => ?_)
  refine pv_aload_n dX2_copyFrom_60 rfl ?_
  refine pv_aload_n dX2_copyFrom_61 rfl ?_
  refine pv_geti dX2_copyFrom_62 fl_X2_24 hc0 rfl ?_
  refine pv_puti dX2_copyFrom_65 fp_X2_24 hb0 rfl rfl rfl ?_
  refine pv_letM (fun m5 => ?_)
  exact pv_vret dX2_copyFrom_68 rfl rfl
def f_X2_strengthBetween (b : Nat) (p1 : Int32) (p2 : Int32) (μ : pm_M) : Option Int32 :=
  (f_X9_isFarm p1).bind (fun r1 => (if r1 = 0 then (some (-6 : Int32)) else (f_X9_isFarm p2).bind (fun r2 => (if r2 = 0 then (some (-6 : Int32)) else pm_ck (((7 : Int32) * p1) + p2) 49 ((some (μ (b + 1) (Int32.toNatClampNeg (((7 : Int32) * p1) + p2)))))))))
abbrev rm_X2_strengthBetween : Room := { frames := 1, cells := 0, slots := 0, locals := 20 }
set_option maxRecDepth 20000 in
set_option maxHeartbeats 2000000 in
theorem k_X2_strengthBetween (l : Launch) (sh : pm_S) (b : Nat) (hb : is_X2 sh b) (p1 : Int32) (p2 : Int32) (μ : pm_M) : pm_Ok l yX2_strengthBetween cX2_strengthBetween 3 (some .int) rm_X2_strengthBetween [.ref b, .int p1, .int p2] sh false sh 0 0 (fun r => (some (.int r), μ)) μ (f_X2_strengthBetween b p1 p2 μ) := by
  obtain ⟨hb0, hb1, hb2, hb3, hb4⟩ := id hb
  refine pm_enter (own := RX2) (by decide) rfl (fun h => by cases h) (ls := [some (.ref b), some (.int p1), some (.int p2)]) rfl (fun _ => Nat.le_of_ble_eq_true rfl) ?_
  unfold f_X2_strengthBetween
  refine pv_iload_n dX2_strengthBetween_0 rfl ?_
  refine pv_cs_ri (rest := []) dX2_strengthBetween_1 my_X9_isFarm sl_X2_40 (k_X9_isFarm l sh p1 μ) rfl ⟨rfl, rfl, Nat.le_of_ble_eq_true rfl, Nat.le_of_ble_eq_true rfl⟩ ⟨Nat.zero_le _, Nat.zero_le _⟩ (Nat.le_of_ble_eq_true rfl) rfl (fun r1 => ?_)
  refine pv_if_eq (tgt := 28) dX2_strengthBetween_4 (by decide) ?_ ?_
  · refine pv_bipush (v := (-6)) dX2_strengthBetween_28 (by decide) ?_
    exact pv_iret dX2_strengthBetween_30 rfl rfl rfl
  · refine pv_iload_n dX2_strengthBetween_7 rfl ?_
    refine pv_cs_ri (rest := []) dX2_strengthBetween_8 my_X9_isFarm sl_X2_40 (k_X9_isFarm l sh p2 μ) rfl ⟨rfl, rfl, Nat.le_of_ble_eq_true rfl, Nat.le_of_ble_eq_true rfl⟩ ⟨Nat.zero_le _, Nat.zero_le _⟩ (Nat.le_of_ble_eq_true rfl) rfl (fun r2 => ?_)
    refine pv_if_eq (tgt := 28) dX2_strengthBetween_11 (by decide) ?_ ?_
    · refine pv_bipush (v := (-6)) dX2_strengthBetween_28 (by decide) ?_
      exact pv_iret dX2_strengthBetween_30 rfl rfl rfl
    · refine pv_aload_n dX2_strengthBetween_14 rfl ?_
      refine pv_getr dX2_strengthBetween_15 fl_X2_9 hb0 rfl ?_
      refine pv_bipush (v := 7) dX2_strengthBetween_18 (by decide) ?_
      refine pv_iload_n dX2_strengthBetween_20 rfl ?_
      refine pv_imul dX2_strengthBetween_21 ?_
      refine pv_iload_n dX2_strengthBetween_22 rfl ?_
      refine pv_iadd dX2_strengthBetween_23 ?_
      refine pv_iald dX2_strengthBetween_24 hb1 ?_
      refine pv_goto (tgt := 30) dX2_strengthBetween_25 (by decide) ?_
      exact pv_iret dX2_strengthBetween_30 rfl rfl rfl
def f_X2_setStrength (b : Nat) (p1 : Int32) (p2 : Int32) (p3 : Int32) (μ : pm_M) : Option pm_M :=
  (f_X9_areTwoFarms p1 p2).bind (fun r1 => (if r1 = 0 then (some μ) else pm_ck (((7 : Int32) * p1) + p2) 49 (pm_let (pm_up μ (b + 1) (Int32.toNatClampNeg (((7 : Int32) * p1) + p2)) p3) (fun m2 => pm_ck (((7 : Int32) * p2) + p1) 49 (pm_let (pm_up m2 (b + 1) (Int32.toNatClampNeg (((7 : Int32) * p2) + p1)) p3) (fun m3 => (some m3)))))))
abbrev rm_X2_setStrength : Room := { frames := 2, cells := 0, slots := 0, locals := 41 }
set_option maxRecDepth 20000 in
set_option maxHeartbeats 2000000 in
theorem k_X2_setStrength (l : Launch) (sh : pm_S) (b : Nat) (hb : is_X2 sh b) (p1 : Int32) (p2 : Int32) (p3 : Int32) (μ : pm_M) : pm_Ok l yX2_setStrength cX2_setStrength 4 none rm_X2_setStrength [.ref b, .int p1, .int p2, .int p3] sh false sh 0 0 (fun r => (none, r)) μ (f_X2_setStrength b p1 p2 p3 μ) := by
  obtain ⟨hb0, hb1, hb2, hb3, hb4⟩ := id hb
  refine pm_enter (own := RX2) (by decide) rfl (fun h => by cases h) (ls := [some (.ref b), some (.int p1), some (.int p2), some (.int p3)]) rfl (fun _ => Nat.le_of_ble_eq_true rfl) ?_
  unfold f_X2_setStrength
  refine pv_iload_n dX2_setStrength_0 rfl ?_
  refine pv_iload_n dX2_setStrength_1 rfl ?_
  refine pv_cs_ri (rest := []) dX2_setStrength_2 my_X9_areTwoFarms sl_X2_44 (k_X9_areTwoFarms l sh p1 p2 μ) rfl ⟨rfl, rfl, Nat.le_of_ble_eq_true rfl, Nat.le_of_ble_eq_true rfl⟩ ⟨Nat.zero_le _, Nat.zero_le _⟩ (Nat.le_of_ble_eq_true rfl) rfl (fun r1 => ?_)
  refine pv_if_eq (tgt := 32) dX2_setStrength_5 (by decide) ?_ ?_
  · exact pv_vret dX2_setStrength_32 rfl rfl
  · refine pv_aload_n dX2_setStrength_8 rfl ?_
    refine pv_getr dX2_setStrength_9 fl_X2_9 hb0 rfl ?_
    refine pv_bipush (v := 7) dX2_setStrength_12 (by decide) ?_
    refine pv_iload_n dX2_setStrength_14 rfl ?_
    refine pv_imul dX2_setStrength_15 ?_
    refine pv_iload_n dX2_setStrength_16 rfl ?_
    refine pv_iadd dX2_setStrength_17 ?_
    refine pv_iload_n dX2_setStrength_18 rfl ?_
    refine pv_iast dX2_setStrength_19 hb1 ?_
    refine pv_letM (fun m2 => ?_)
    refine pv_aload_n dX2_setStrength_20 rfl ?_
    refine pv_getr dX2_setStrength_21 fl_X2_9 hb0 rfl ?_
    refine pv_bipush (v := 7) dX2_setStrength_24 (by decide) ?_
    refine pv_iload_n dX2_setStrength_26 rfl ?_
    refine pv_imul dX2_setStrength_27 ?_
    refine pv_iload_n dX2_setStrength_28 rfl ?_
    refine pv_iadd dX2_setStrength_29 ?_
    refine pv_iload_n dX2_setStrength_30 rfl ?_
    refine pv_iast dX2_setStrength_31 hb1 ?_
    refine pv_letM (fun m3 => ?_)
    exact pv_vret dX2_setStrength_32 rfl rfl
def f_X2_milesBetween (b : Nat) (p1 : Int32) (p2 : Int32) (μ : pm_M) : Option Int32 :=
  (f_X9_isFarm p1).bind (fun r1 => (if r1 = 0 then (some (0 : Int32)) else (f_X9_isFarm p2).bind (fun r2 => (if r2 = 0 then (some (0 : Int32)) else pm_ck (((7 : Int32) * p1) + p2) 49 ((some (μ (b + 2) (Int32.toNatClampNeg (((7 : Int32) * p1) + p2)))))))))
abbrev rm_X2_milesBetween : Room := { frames := 1, cells := 0, slots := 0, locals := 20 }
set_option maxRecDepth 20000 in
set_option maxHeartbeats 2000000 in
theorem k_X2_milesBetween (l : Launch) (sh : pm_S) (b : Nat) (hb : is_X2 sh b) (p1 : Int32) (p2 : Int32) (μ : pm_M) : pm_Ok l yX2_milesBetween cX2_milesBetween 3 (some .int) rm_X2_milesBetween [.ref b, .int p1, .int p2] sh false sh 0 0 (fun r => (some (.int r), μ)) μ (f_X2_milesBetween b p1 p2 μ) := by
  obtain ⟨hb0, hb1, hb2, hb3, hb4⟩ := id hb
  refine pm_enter (own := RX2) (by decide) rfl (fun h => by cases h) (ls := [some (.ref b), some (.int p1), some (.int p2)]) rfl (fun _ => Nat.le_of_ble_eq_true rfl) ?_
  unfold f_X2_milesBetween
  refine pv_iload_n dX2_milesBetween_0 rfl ?_
  refine pv_cs_ri (rest := []) dX2_milesBetween_1 my_X9_isFarm sl_X2_40 (k_X9_isFarm l sh p1 μ) rfl ⟨rfl, rfl, Nat.le_of_ble_eq_true rfl, Nat.le_of_ble_eq_true rfl⟩ ⟨Nat.zero_le _, Nat.zero_le _⟩ (Nat.le_of_ble_eq_true rfl) rfl (fun r1 => ?_)
  refine pv_if_eq (tgt := 28) dX2_milesBetween_4 (by decide) ?_ ?_
  · refine pv_iconst (v := 0) dX2_milesBetween_28 (by decide) ?_
    exact pv_iret dX2_milesBetween_29 rfl rfl rfl
  · refine pv_iload_n dX2_milesBetween_7 rfl ?_
    refine pv_cs_ri (rest := []) dX2_milesBetween_8 my_X9_isFarm sl_X2_40 (k_X9_isFarm l sh p2 μ) rfl ⟨rfl, rfl, Nat.le_of_ble_eq_true rfl, Nat.le_of_ble_eq_true rfl⟩ ⟨Nat.zero_le _, Nat.zero_le _⟩ (Nat.le_of_ble_eq_true rfl) rfl (fun r2 => ?_)
    refine pv_if_eq (tgt := 28) dX2_milesBetween_11 (by decide) ?_ ?_
    · refine pv_iconst (v := 0) dX2_milesBetween_28 (by decide) ?_
      exact pv_iret dX2_milesBetween_29 rfl rfl rfl
    · refine pv_aload_n dX2_milesBetween_14 rfl ?_
      refine pv_getr dX2_milesBetween_15 fl_X2_15 hb0 rfl ?_
      refine pv_bipush (v := 7) dX2_milesBetween_18 (by decide) ?_
      refine pv_iload_n dX2_milesBetween_20 rfl ?_
      refine pv_imul dX2_milesBetween_21 ?_
      refine pv_iload_n dX2_milesBetween_22 rfl ?_
      refine pv_iadd dX2_milesBetween_23 ?_
      refine pv_iald dX2_milesBetween_24 hb2 ?_
      refine pv_goto (tgt := 29) dX2_milesBetween_25 (by decide) ?_
      exact pv_iret dX2_milesBetween_29 rfl rfl rfl
def f_X2_setMiles (b : Nat) (p1 : Int32) (p2 : Int32) (p3 : Int32) (μ : pm_M) : Option pm_M :=
  (f_X9_areTwoFarms p1 p2).bind (fun r1 => (if r1 = 0 then (some μ) else pm_ck (((7 : Int32) * p1) + p2) 49 (pm_let (pm_up μ (b + 2) (Int32.toNatClampNeg (((7 : Int32) * p1) + p2)) p3) (fun m2 => pm_ck (((7 : Int32) * p2) + p1) 49 (pm_let (pm_up m2 (b + 2) (Int32.toNatClampNeg (((7 : Int32) * p2) + p1)) p3) (fun m3 => (some m3)))))))
abbrev rm_X2_setMiles : Room := { frames := 2, cells := 0, slots := 0, locals := 41 }
set_option maxRecDepth 20000 in
set_option maxHeartbeats 2000000 in
theorem k_X2_setMiles (l : Launch) (sh : pm_S) (b : Nat) (hb : is_X2 sh b) (p1 : Int32) (p2 : Int32) (p3 : Int32) (μ : pm_M) : pm_Ok l yX2_setMiles cX2_setMiles 4 none rm_X2_setMiles [.ref b, .int p1, .int p2, .int p3] sh false sh 0 0 (fun r => (none, r)) μ (f_X2_setMiles b p1 p2 p3 μ) := by
  obtain ⟨hb0, hb1, hb2, hb3, hb4⟩ := id hb
  refine pm_enter (own := RX2) (by decide) rfl (fun h => by cases h) (ls := [some (.ref b), some (.int p1), some (.int p2), some (.int p3)]) rfl (fun _ => Nat.le_of_ble_eq_true rfl) ?_
  unfold f_X2_setMiles
  refine pv_iload_n dX2_setMiles_0 rfl ?_
  refine pv_iload_n dX2_setMiles_1 rfl ?_
  refine pv_cs_ri (rest := []) dX2_setMiles_2 my_X9_areTwoFarms sl_X2_44 (k_X9_areTwoFarms l sh p1 p2 μ) rfl ⟨rfl, rfl, Nat.le_of_ble_eq_true rfl, Nat.le_of_ble_eq_true rfl⟩ ⟨Nat.zero_le _, Nat.zero_le _⟩ (Nat.le_of_ble_eq_true rfl) rfl (fun r1 => ?_)
  refine pv_if_eq (tgt := 32) dX2_setMiles_5 (by decide) ?_ ?_
  · exact pv_vret dX2_setMiles_32 rfl rfl
  · refine pv_aload_n dX2_setMiles_8 rfl ?_
    refine pv_getr dX2_setMiles_9 fl_X2_15 hb0 rfl ?_
    refine pv_bipush (v := 7) dX2_setMiles_12 (by decide) ?_
    refine pv_iload_n dX2_setMiles_14 rfl ?_
    refine pv_imul dX2_setMiles_15 ?_
    refine pv_iload_n dX2_setMiles_16 rfl ?_
    refine pv_iadd dX2_setMiles_17 ?_
    refine pv_iload_n dX2_setMiles_18 rfl ?_
    refine pv_iast dX2_setMiles_19 hb2 ?_
    refine pv_letM (fun m2 => ?_)
    refine pv_aload_n dX2_setMiles_20 rfl ?_
    refine pv_getr dX2_setMiles_21 fl_X2_15 hb0 rfl ?_
    refine pv_bipush (v := 7) dX2_setMiles_24 (by decide) ?_
    refine pv_iload_n dX2_setMiles_26 rfl ?_
    refine pv_imul dX2_setMiles_27 ?_
    refine pv_iload_n dX2_setMiles_28 rfl ?_
    refine pv_iadd dX2_setMiles_29 ?_
    refine pv_iload_n dX2_setMiles_30 rfl ?_
    refine pv_iast dX2_setMiles_31 hb2 ?_
    refine pv_letM (fun m3 => ?_)
    exact pv_vret dX2_setMiles_32 rfl rfl
def f_X2_placeOf (b : Nat) (p1 : Int32) (μ : pm_M) : Option Int32 :=
  (f_X9_isFarm p1).bind (fun r1 => (if r1 = 0 then (some (-6 : Int32)) else pm_ck p1 7 ((some (μ (b + 3) (Int32.toNatClampNeg p1))))))
abbrev rm_X2_placeOf : Room := { frames := 1, cells := 0, slots := 0, locals := 20 }
set_option maxRecDepth 20000 in
set_option maxHeartbeats 2000000 in
theorem k_X2_placeOf (l : Launch) (sh : pm_S) (b : Nat) (hb : is_X2 sh b) (p1 : Int32) (μ : pm_M) : pm_Ok l yX2_placeOf cX2_placeOf 2 (some .int) rm_X2_placeOf [.ref b, .int p1] sh false sh 0 0 (fun r => (some (.int r), μ)) μ (f_X2_placeOf b p1 μ) := by
  obtain ⟨hb0, hb1, hb2, hb3, hb4⟩ := id hb
  refine pm_enter (own := RX2) (by decide) rfl (fun h => by cases h) (ls := [some (.ref b), some (.int p1)]) rfl (fun _ => Nat.le_of_ble_eq_true rfl) ?_
  unfold f_X2_placeOf
  refine pv_iload_n dX2_placeOf_0 rfl ?_
  refine pv_cs_ri (rest := []) dX2_placeOf_1 my_X9_isFarm sl_X2_40 (k_X9_isFarm l sh p1 μ) rfl ⟨rfl, rfl, Nat.le_of_ble_eq_true rfl, Nat.le_of_ble_eq_true rfl⟩ ⟨Nat.zero_le _, Nat.zero_le _⟩ (Nat.le_of_ble_eq_true rfl) rfl (fun r1 => ?_)
  refine pv_if_eq (tgt := 16) dX2_placeOf_4 (by decide) ?_ ?_
  · refine pv_bipush (v := (-6)) dX2_placeOf_16 (by decide) ?_
    exact pv_iret dX2_placeOf_18 rfl rfl rfl
  · refine pv_aload_n dX2_placeOf_7 rfl ?_
    refine pv_getr dX2_placeOf_8 fl_X2_18 hb0 rfl ?_
    refine pv_iload_n dX2_placeOf_11 rfl ?_
    refine pv_iald dX2_placeOf_12 hb3 ?_
    refine pv_goto (tgt := 18) dX2_placeOf_13 (by decide) ?_
    exact pv_iret dX2_placeOf_18 rfl rfl rfl
def f_X2_cowsOf (b : Nat) (p1 : Int32) (μ : pm_M) : Option Int32 :=
  (f_X9_isFarm p1).bind (fun r1 => (if r1 = 0 then (some (0 : Int32)) else pm_ck p1 7 ((some (μ (b + 4) (Int32.toNatClampNeg p1))))))
abbrev rm_X2_cowsOf : Room := { frames := 1, cells := 0, slots := 0, locals := 20 }
set_option maxRecDepth 20000 in
set_option maxHeartbeats 2000000 in
theorem k_X2_cowsOf (l : Launch) (sh : pm_S) (b : Nat) (hb : is_X2 sh b) (p1 : Int32) (μ : pm_M) : pm_Ok l yX2_cowsOf cX2_cowsOf 2 (some .int) rm_X2_cowsOf [.ref b, .int p1] sh false sh 0 0 (fun r => (some (.int r), μ)) μ (f_X2_cowsOf b p1 μ) := by
  obtain ⟨hb0, hb1, hb2, hb3, hb4⟩ := id hb
  refine pm_enter (own := RX2) (by decide) rfl (fun h => by cases h) (ls := [some (.ref b), some (.int p1)]) rfl (fun _ => Nat.le_of_ble_eq_true rfl) ?_
  unfold f_X2_cowsOf
  refine pv_iload_n dX2_cowsOf_0 rfl ?_
  refine pv_cs_ri (rest := []) dX2_cowsOf_1 my_X9_isFarm sl_X2_40 (k_X9_isFarm l sh p1 μ) rfl ⟨rfl, rfl, Nat.le_of_ble_eq_true rfl, Nat.le_of_ble_eq_true rfl⟩ ⟨Nat.zero_le _, Nat.zero_le _⟩ (Nat.le_of_ble_eq_true rfl) rfl (fun r1 => ?_)
  refine pv_if_eq (tgt := 16) dX2_cowsOf_4 (by decide) ?_ ?_
  · refine pv_iconst (v := 0) dX2_cowsOf_16 (by decide) ?_
    exact pv_iret dX2_cowsOf_17 rfl rfl rfl
  · refine pv_aload_n dX2_cowsOf_7 rfl ?_
    refine pv_getr dX2_cowsOf_8 fl_X2_21 hb0 rfl ?_
    refine pv_iload_n dX2_cowsOf_11 rfl ?_
    refine pv_iald dX2_cowsOf_12 hb4 ?_
    refine pv_goto (tgt := 17) dX2_cowsOf_13 (by decide) ?_
    exact pv_iret dX2_cowsOf_17 rfl rfl rfl
def f_X2_settle (b : Nat) (p1 : Int32) (p2 : Int32) (p3 : Int32) (μ : pm_M) : Option pm_M :=
  (f_X9_isFarm p1).bind (fun r1 => (if r1 = 0 then (some μ) else (f_X9_isFarm p3).bind (fun r2 => (if r2 = 0 then (some μ) else pm_ck p1 7 (pm_let (pm_up μ (b + 4) (Int32.toNatClampNeg p1) p2) (fun m3 => pm_ck p1 7 (pm_let (pm_up m3 (b + 3) (Int32.toNatClampNeg p1) p3) (fun m4 => (some m4)))))))))
abbrev rm_X2_settle : Room := { frames := 1, cells := 0, slots := 0, locals := 20 }
set_option maxRecDepth 20000 in
set_option maxHeartbeats 2000000 in
theorem k_X2_settle (l : Launch) (sh : pm_S) (b : Nat) (hb : is_X2 sh b) (p1 : Int32) (p2 : Int32) (p3 : Int32) (μ : pm_M) : pm_Ok l yX2_settle cX2_settle 4 none rm_X2_settle [.ref b, .int p1, .int p2, .int p3] sh false sh 0 0 (fun r => (none, r)) μ (f_X2_settle b p1 p2 p3 μ) := by
  obtain ⟨hb0, hb1, hb2, hb3, hb4⟩ := id hb
  refine pm_enter (own := RX2) (by decide) rfl (fun h => by cases h) (ls := [some (.ref b), some (.int p1), some (.int p2), some (.int p3)]) rfl (fun _ => Nat.le_of_ble_eq_true rfl) ?_
  unfold f_X2_settle
  refine pv_iload_n dX2_settle_0 rfl ?_
  refine pv_cs_ri (rest := []) dX2_settle_1 my_X9_isFarm sl_X2_40 (k_X9_isFarm l sh p1 μ) rfl ⟨rfl, rfl, Nat.le_of_ble_eq_true rfl, Nat.le_of_ble_eq_true rfl⟩ ⟨Nat.zero_le _, Nat.zero_le _⟩ (Nat.le_of_ble_eq_true rfl) rfl (fun r1 => ?_)
  refine pv_if_eq (tgt := 28) dX2_settle_4 (by decide) ?_ ?_
  · exact pv_vret dX2_settle_28 rfl rfl
  · refine pv_iload_n dX2_settle_7 rfl ?_
    refine pv_cs_ri (rest := []) dX2_settle_8 my_X9_isFarm sl_X2_40 (k_X9_isFarm l sh p3 μ) rfl ⟨rfl, rfl, Nat.le_of_ble_eq_true rfl, Nat.le_of_ble_eq_true rfl⟩ ⟨Nat.zero_le _, Nat.zero_le _⟩ (Nat.le_of_ble_eq_true rfl) rfl (fun r2 => ?_)
    refine pv_if_eq (tgt := 28) dX2_settle_11 (by decide) ?_ ?_
    · exact pv_vret dX2_settle_28 rfl rfl
    · refine pv_aload_n dX2_settle_14 rfl ?_
      refine pv_getr dX2_settle_15 fl_X2_21 hb0 rfl ?_
      refine pv_iload_n dX2_settle_18 rfl ?_
      refine pv_iload_n dX2_settle_19 rfl ?_
      refine pv_iast dX2_settle_20 hb4 ?_
      refine pv_letM (fun m3 => ?_)
      refine pv_aload_n dX2_settle_21 rfl ?_
      refine pv_getr dX2_settle_22 fl_X2_18 hb0 rfl ?_
      refine pv_iload_n dX2_settle_25 rfl ?_
      refine pv_iload_n dX2_settle_26 rfl ?_
      refine pv_iast dX2_settle_27 hb3 ?_
      refine pv_letM (fun m4 => ?_)
      exact pv_vret dX2_settle_28 rfl rfl
def f_X2_countStrengths_b18 (b : Nat) (p1 : Int32) (p2 : Int32) (μ : pm_M) (v5 : (Int32 × Int32)) (v18 : (Int32 × Int32)) (T18 : ((Int32 × Int32) → Option Int32)) (E18 : (Int32 → Option Int32)) : Option Int32 :=
  (if (7 : Int32) ≤ v18.2 then (E18 v18.1) else pm_ck (((7 : Int32) * v5.2) + v18.2) 49 (pm_let (μ (b + 1) (Int32.toNatClampNeg (((7 : Int32) * v5.2) + v18.2))) (fun x2 => (pm_jn (fun (a3 : Int32) => (T18 (a3, (v18.2 + 1)))) (fun j55 => (if x2 < p1 then (j55 v18.1) else (if p2 < x2 then (j55 v18.1) else (j55 (v18.1 + 1)))))))))
def f_X2_countStrengths_b5 (b : Nat) (p1 : Int32) (p2 : Int32) (μ : pm_M) (v5 : (Int32 × Int32)) (T5 : ((Int32 × Int32) → Option Int32)) (E5 : (Int32 → Option Int32)) : Option Int32 :=
  (if (7 : Int32) ≤ v5.2 then (E5 v5.1) else pm_let (v5.2 + (1 : Int32)) (fun x1 => (pm_it (f_X2_countStrengths_b18 b p1 p2 μ v5) 5000 (v5.1, x1) (fun e18 => (T5 (e18, (v5.2 + 1)))))))
def f_X2_countStrengths (b : Nat) (p1 : Int32) (p2 : Int32) (μ : pm_M) : Option Int32 :=
  (pm_it (f_X2_countStrengths_b5 b p1 p2 μ) 5000 ((0 : Int32), (0 : Int32)) (fun e5 => (some e5)))
abbrev rm_X2_countStrengths : Room := { frames := 0, cells := 0, slots := 0, locals := 0 }
set_option maxRecDepth 20000 in
set_option maxHeartbeats 2000000 in
theorem k_X2_countStrengths (l : Launch) (sh : pm_S) (b : Nat) (hb : is_X2 sh b) (p1 : Int32) (p2 : Int32) (μ : pm_M) : pm_Ok l yX2_countStrengths cX2_countStrengths 7 (some .int) rm_X2_countStrengths [.ref b, .int p1, .int p2] sh false sh 0 0 (fun r => (some (.int r), μ)) μ (f_X2_countStrengths b p1 p2 μ) := by
  obtain ⟨hb0, hb1, hb2, hb3, hb4⟩ := id hb
  refine pm_enter (own := RX2) (by decide) rfl (fun h => by cases h) (ls := [some (.ref b), some (.int p1), some (.int p2), none, none, none, none]) rfl (fun _ => Nat.le_of_ble_eq_true rfl) ?_
  unfold f_X2_countStrengths
  refine pv_iconst (v := 0) dX2_countStrengths_0 (by decide) ?_
  refine pv_istore_n (ls' := [some (.ref b), some (.int p1), some (.int p2), some (.int (0 : Int32)), none, none, none]) dX2_countStrengths_1 (Nat.le_of_ble_eq_true rfl) rfl ?_
  refine pv_iconst (v := 0) dX2_countStrengths_2 (by decide) ?_
  refine pv_istore (ls' := [some (.ref b), some (.int p1), some (.int p2), some (.int (0 : Int32)), some (.int (0 : Int32)), none, none]) dX2_countStrengths_3 (Nat.le_of_ble_eq_true rfl) rfl ?_
  refine pv_loop (body := (f_X2_countStrengths_b5 b p1 p2 μ)) (pcE := 67) (lsf := fun v5 => [some (.ref b), some (.int p1), some (.int p2), some (.int v5.1), some (.int v5.2), none, none]) (mf := fun v5 => μ) (lsE := fun e5 => [none, none, none, some (.int e5), none, none, none]) (mE := fun e5 => μ) (fun e5 => ?_) (fun E5 hE5 T5 hT5 v5 => ?_) 5000 ((0 : Int32), (0 : Int32))
  · refine pv_iload_n dX2_countStrengths_67 rfl ?_
    exact pv_iret dX2_countStrengths_68 rfl rfl rfl
  · unfold f_X2_countStrengths_b5
    refine pv_iload dX2_countStrengths_5 rfl ?_
    refine pv_bipush (v := 7) dX2_countStrengths_7 (by decide) ?_
    refine pv_icmp_ge (tgt := 67) dX2_countStrengths_9 (by decide) ?_ ?_
    · refine pv_mask (ls' := [none, none, none, some (.int v5.1), none, none, none]) [false, false, false, true, false, false, false] rfl ?_
      exact hE5 v5.1
    · refine pv_iload dX2_countStrengths_12 rfl ?_
      refine pv_iconst (v := 1) dX2_countStrengths_14 (by decide) ?_
      refine pv_iadd dX2_countStrengths_15 ?_
      refine pv_let (fun x1 => ?_)
      refine pv_istore (ls' := [some (.ref b), some (.int p1), some (.int p2), some (.int v5.1), some (.int v5.2), some (.int x1), none]) dX2_countStrengths_16 (Nat.le_of_ble_eq_true rfl) rfl ?_
      refine pv_loop (body := (f_X2_countStrengths_b18 b p1 p2 μ v5)) (pcE := 61) (lsf := fun v18 => [some (.ref b), some (.int p1), some (.int p2), some (.int v18.1), some (.int v5.2), some (.int v18.2), none]) (mf := fun v18 => μ) (lsE := fun e18 => [some (.ref b), some (.int p1), some (.int p2), some (.int e18), some (.int v5.2), none, none]) (mE := fun e18 => μ) (fun e18 => ?_) (fun E18 hE18 T18 hT18 v18 => ?_) 5000 (v5.1, x1)
      · refine pv_iinc (v := (v5.2 + 1)) (ls' := [some (.ref b), some (.int p1), some (.int p2), some (.int e18), some (.int (v5.2 + 1)), none, none]) dX2_countStrengths_61 rfl rfl (Nat.le_of_ble_eq_true rfl) rfl ?_
        refine pv_goto (tgt := 5) dX2_countStrengths_64 (by decide) ?_
        exact hT5 (e18, (v5.2 + 1))
      · unfold f_X2_countStrengths_b18
        refine pv_iload dX2_countStrengths_18 rfl ?_
        refine pv_bipush (v := 7) dX2_countStrengths_20 (by decide) ?_
        refine pv_icmp_ge (tgt := 61) dX2_countStrengths_22 (by decide) ?_ ?_
        · refine pv_mask (ls' := [some (.ref b), some (.int p1), some (.int p2), some (.int v18.1), some (.int v5.2), none, none]) [true, true, true, true, true, false, false] rfl ?_
          exact hE18 v18.1
        · refine pv_aload_n dX2_countStrengths_25 rfl ?_
          refine pv_getr dX2_countStrengths_26 fl_X2_9 hb0 rfl ?_
          refine pv_bipush (v := 7) dX2_countStrengths_29 (by decide) ?_
          refine pv_iload dX2_countStrengths_31 rfl ?_
          refine pv_imul dX2_countStrengths_33 ?_
          refine pv_iload dX2_countStrengths_34 rfl ?_
          refine pv_iadd dX2_countStrengths_36 ?_
          refine pv_iald dX2_countStrengths_37 hb1 ?_
          refine pv_let (fun x2 => ?_)
          refine pv_istore (ls' := [some (.ref b), some (.int p1), some (.int p2), some (.int v18.1), some (.int v5.2), some (.int v18.2), some (.int x2)]) dX2_countStrengths_38 (Nat.le_of_ble_eq_true rfl) rfl ?_
          refine pv_iload dX2_countStrengths_40 rfl ?_
          refine pv_iload_n dX2_countStrengths_42 rfl ?_
          refine pv_jn (pcJ := 55) (lsJ := fun a3 => [some (.ref b), some (.int p1), some (.int p2), some (.int a3), some (.int v5.2), some (.int v18.2), none]) (stJ := fun a3 => []) (mJ := fun a3 => μ) (fun a3 => ?_) (fun j55 hj55 => ?_)
          · refine pv_iinc (v := (v18.2 + 1)) (ls' := [some (.ref b), some (.int p1), some (.int p2), some (.int a3), some (.int v5.2), some (.int (v18.2 + 1)), none]) dX2_countStrengths_55 rfl rfl (Nat.le_of_ble_eq_true rfl) rfl ?_
            refine pv_goto (tgt := 18) dX2_countStrengths_58 (by decide) ?_
            exact hT18 (a3, (v18.2 + 1))
          · refine pv_icmp_lt (tgt := 55) dX2_countStrengths_43 (by decide) ?_ ?_
            · refine pv_mask (ls' := [some (.ref b), some (.int p1), some (.int p2), some (.int v18.1), some (.int v5.2), some (.int v18.2), none]) [true, true, true, true, true, true, false] rfl ?_
              exact hj55 v18.1
            · refine pv_iload dX2_countStrengths_46 rfl ?_
              refine pv_iload_n dX2_countStrengths_48 rfl ?_
              refine pv_icmp_gt (tgt := 55) dX2_countStrengths_49 (by decide) ?_ ?_
              · refine pv_mask (ls' := [some (.ref b), some (.int p1), some (.int p2), some (.int v18.1), some (.int v5.2), some (.int v18.2), none]) [true, true, true, true, true, true, false] rfl ?_
                exact hj55 v18.1
              · refine pv_iinc (v := (v18.1 + 1)) (ls' := [some (.ref b), some (.int p1), some (.int p2), some (.int (v18.1 + 1)), some (.int v5.2), some (.int v18.2), some (.int x2)]) dX2_countStrengths_52 rfl rfl (Nat.le_of_ble_eq_true rfl) rfl ?_
                refine pv_mask (ls' := [some (.ref b), some (.int p1), some (.int p2), some (.int (v18.1 + 1)), some (.int v5.2), some (.int v18.2), none]) [true, true, true, true, true, true, false] rfl ?_
                exact hj55 (v18.1 + 1)
def f_X2_countPales (b : Nat) (μ : pm_M) : Option Int32 :=
  (f_X2_countStrengths b (0 : Int32) (9 : Int32) μ).bind (fun r1 => (some r1))
abbrev rm_X2_countPales : Room := { frames := 1, cells := 0, slots := 0, locals := 26 }
set_option maxRecDepth 20000 in
set_option maxHeartbeats 2000000 in
theorem k_X2_countPales (l : Launch) (sh : pm_S) (b : Nat) (hb : is_X2 sh b) (μ : pm_M) : pm_Ok l yX2_countPales cX2_countPales 1 (some .int) rm_X2_countPales [.ref b] sh false sh 0 0 (fun r => (some (.int r), μ)) μ (f_X2_countPales b μ) := by
  obtain ⟨hb0, hb1, hb2, hb3, hb4⟩ := id hb
  refine pm_enter (own := RX2) (by decide) rfl (fun h => by cases h) (ls := [some (.ref b)]) rfl (fun _ => Nat.le_of_ble_eq_true rfl) ?_
  unfold f_X2_countPales
  refine pv_aload_n dX2_countPales_0 rfl ?_
  refine pv_iconst (v := 0) dX2_countPales_1 (by decide) ?_
  refine pv_bipush (v := 9) dX2_countPales_2 (by decide) ?_
  refine pv_cv_ri (rest := []) dX2_countPales_4 my_X2_countStrengths vl_X2_48 (k_X2_countStrengths l sh b hb (0 : Int32) (9 : Int32) μ) hb0 rfl rfl ⟨rfl, rfl, Nat.le_of_ble_eq_true rfl, Nat.le_of_ble_eq_true rfl⟩ ⟨Nat.zero_le _, Nat.zero_le _⟩ (Nat.le_of_ble_eq_true rfl) rfl (fun r1 => ?_)
  exact pv_iret dX2_countPales_7 rfl rfl rfl
def f_X2_countGaps (b : Nat) (μ : pm_M) : Option Int32 :=
  (f_X2_countStrengths b (0 : Int32) (0 : Int32) μ).bind (fun r1 => (some r1))
abbrev rm_X2_countGaps : Room := { frames := 1, cells := 0, slots := 0, locals := 26 }
set_option maxRecDepth 20000 in
set_option maxHeartbeats 2000000 in
theorem k_X2_countGaps (l : Launch) (sh : pm_S) (b : Nat) (hb : is_X2 sh b) (μ : pm_M) : pm_Ok l yX2_countGaps cX2_countGaps 1 (some .int) rm_X2_countGaps [.ref b] sh false sh 0 0 (fun r => (some (.int r), μ)) μ (f_X2_countGaps b μ) := by
  obtain ⟨hb0, hb1, hb2, hb3, hb4⟩ := id hb
  refine pm_enter (own := RX2) (by decide) rfl (fun h => by cases h) (ls := [some (.ref b)]) rfl (fun _ => Nat.le_of_ble_eq_true rfl) ?_
  unfold f_X2_countGaps
  refine pv_aload_n dX2_countGaps_0 rfl ?_
  refine pv_iconst (v := 0) dX2_countGaps_1 (by decide) ?_
  refine pv_iconst (v := 0) dX2_countGaps_2 (by decide) ?_
  refine pv_cv_ri (rest := []) dX2_countGaps_3 my_X2_countStrengths vl_X2_48 (k_X2_countStrengths l sh b hb (0 : Int32) (0 : Int32) μ) hb0 rfl rfl ⟨rfl, rfl, Nat.le_of_ble_eq_true rfl, Nat.le_of_ble_eq_true rfl⟩ ⟨Nat.zero_le _, Nat.zero_le _⟩ (Nat.le_of_ble_eq_true rfl) rfl (fun r1 => ?_)
  exact pv_iret dX2_countGaps_6 rfl rfl rfl
def f_X2_awayBits_b4 (b : Nat) (μ : pm_M) (v4 : (Int32 × Int32)) (T4 : ((Int32 × Int32) → Option Int32)) (E4 : (Int32 → Option Int32)) : Option Int32 :=
  (if (7 : Int32) ≤ v4.2 then (E4 v4.1) else pm_ck v4.2 7 ((pm_jn (fun (a1 : Int32) => (T4 (a1, (v4.2 + 1)))) (fun j26 => (if (μ (b + 3) (Int32.toNatClampNeg v4.2)) = v4.2 then (j26 v4.1) else pm_let (v4.1 ||| ((1 : Int32) <<< (v4.2 &&& 31))) (fun x2 => (j26 x2)))))))
def f_X2_awayBits (b : Nat) (μ : pm_M) : Option Int32 :=
  (pm_it (f_X2_awayBits_b4 b μ) 5000 ((0 : Int32), (0 : Int32)) (fun e4 => (some e4)))
abbrev rm_X2_awayBits : Room := { frames := 0, cells := 0, slots := 0, locals := 0 }
set_option maxRecDepth 20000 in
set_option maxHeartbeats 2000000 in
theorem k_X2_awayBits (l : Launch) (sh : pm_S) (b : Nat) (hb : is_X2 sh b) (μ : pm_M) : pm_Ok l yX2_awayBits cX2_awayBits 3 (some .int) rm_X2_awayBits [.ref b] sh false sh 0 0 (fun r => (some (.int r), μ)) μ (f_X2_awayBits b μ) := by
  obtain ⟨hb0, hb1, hb2, hb3, hb4⟩ := id hb
  refine pm_enter (own := RX2) (by decide) rfl (fun h => by cases h) (ls := [some (.ref b), none, none]) rfl (fun _ => Nat.le_of_ble_eq_true rfl) ?_
  unfold f_X2_awayBits
  refine pv_iconst (v := 0) dX2_awayBits_0 (by decide) ?_
  refine pv_istore_n (ls' := [some (.ref b), some (.int (0 : Int32)), none]) dX2_awayBits_1 (Nat.le_of_ble_eq_true rfl) rfl ?_
  refine pv_iconst (v := 0) dX2_awayBits_2 (by decide) ?_
  refine pv_istore_n (ls' := [some (.ref b), some (.int (0 : Int32)), some (.int (0 : Int32))]) dX2_awayBits_3 (Nat.le_of_ble_eq_true rfl) rfl ?_
  refine pv_loop (body := (f_X2_awayBits_b4 b μ)) (pcE := 32) (lsf := fun v4 => [some (.ref b), some (.int v4.1), some (.int v4.2)]) (mf := fun v4 => μ) (lsE := fun e4 => [none, some (.int e4), none]) (mE := fun e4 => μ) (fun e4 => ?_) (fun E4 hE4 T4 hT4 v4 => ?_) 5000 ((0 : Int32), (0 : Int32))
  · refine pv_iload_n dX2_awayBits_32 rfl ?_
    exact pv_iret dX2_awayBits_33 rfl rfl rfl
  · unfold f_X2_awayBits_b4
    refine pv_iload_n dX2_awayBits_4 rfl ?_
    refine pv_bipush (v := 7) dX2_awayBits_5 (by decide) ?_
    refine pv_icmp_ge (tgt := 32) dX2_awayBits_7 (by decide) ?_ ?_
    · refine pv_mask (ls' := [none, some (.int v4.1), none]) [false, true, false] rfl ?_
      exact hE4 v4.1
    · refine pv_aload_n dX2_awayBits_10 rfl ?_
      refine pv_getr dX2_awayBits_11 fl_X2_18 hb0 rfl ?_
      refine pv_iload_n dX2_awayBits_14 rfl ?_
      refine pv_iald dX2_awayBits_15 hb3 ?_
      refine pv_iload_n dX2_awayBits_16 rfl ?_
      refine pv_jn (pcJ := 26) (lsJ := fun a1 => [some (.ref b), some (.int a1), some (.int v4.2)]) (stJ := fun a1 => []) (mJ := fun a1 => μ) (fun a1 => ?_) (fun j26 hj26 => ?_)
      · refine pv_iinc (v := (v4.2 + 1)) (ls' := [some (.ref b), some (.int a1), some (.int (v4.2 + 1))]) dX2_awayBits_26 rfl rfl (Nat.le_of_ble_eq_true rfl) rfl ?_
        refine pv_goto (tgt := 4) dX2_awayBits_29 (by decide) ?_
        exact hT4 (a1, (v4.2 + 1))
      · refine pv_icmp_eq (tgt := 26) dX2_awayBits_17 (by decide) ?_ ?_
        · exact hj26 v4.1
        · refine pv_iload_n dX2_awayBits_20 rfl ?_
          refine pv_iconst (v := 1) dX2_awayBits_21 (by decide) ?_
          refine pv_iload_n dX2_awayBits_22 rfl ?_
          refine pv_ishl dX2_awayBits_23 ?_
          refine pv_ior dX2_awayBits_24 ?_
          refine pv_let (fun x2 => ?_)
          refine pv_istore_n (ls' := [some (.ref b), some (.int x2), some (.int v4.2)]) dX2_awayBits_25 (Nat.le_of_ble_eq_true rfl) rfl ?_
          exact hj26 x2
def f_X2_toBeMended_b4 (b : Nat) (p1 : Int32) (μ : pm_M) (v4 : (Int32 × Int32)) (T4 : ((Int32 × Int32) → Option Int32)) (E4 : (Int32 → Option Int32)) : Option Int32 :=
  (if (7 : Int32) ≤ v4.2 then (E4 v4.1) else (f_X2_strengthBetween b p1 v4.2 μ).bind (fun r1 => (pm_jn (fun (a2 : Int32) => (T4 (a2, (v4.2 + 1)))) (fun j36 => (if r1 < 0 then (j36 v4.1) else (if (9 : Int32) ≤ r1 then (j36 v4.1) else pm_let (v4.1 ||| ((1 : Int32) <<< (v4.2 &&& 31))) (fun x3 => (j36 x3))))))))
def f_X2_toBeMended (b : Nat) (p1 : Int32) (μ : pm_M) : Option Int32 :=
  (pm_it (f_X2_toBeMended_b4 b p1 μ) 5000 ((0 : Int32), (0 : Int32)) (fun e4 => (some e4)))
abbrev rm_X2_toBeMended : Room := { frames := 2, cells := 0, slots := 0, locals := 42 }
set_option maxRecDepth 20000 in
set_option maxHeartbeats 2000000 in
theorem k_X2_toBeMended (l : Launch) (sh : pm_S) (b : Nat) (hb : is_X2 sh b) (p1 : Int32) (μ : pm_M) : pm_Ok l yX2_toBeMended cX2_toBeMended 5 (some .int) rm_X2_toBeMended [.ref b, .int p1] sh false sh 0 0 (fun r => (some (.int r), μ)) μ (f_X2_toBeMended b p1 μ) := by
  obtain ⟨hb0, hb1, hb2, hb3, hb4⟩ := id hb
  refine pm_enter (own := RX2) (by decide) rfl (fun h => by cases h) (ls := [some (.ref b), some (.int p1), none, none, none]) rfl (fun _ => Nat.le_of_ble_eq_true rfl) ?_
  unfold f_X2_toBeMended
  refine pv_iconst (v := 0) dX2_toBeMended_0 (by decide) ?_
  refine pv_istore_n (ls' := [some (.ref b), some (.int p1), some (.int (0 : Int32)), none, none]) dX2_toBeMended_1 (Nat.le_of_ble_eq_true rfl) rfl ?_
  refine pv_iconst (v := 0) dX2_toBeMended_2 (by decide) ?_
  refine pv_istore_n (ls' := [some (.ref b), some (.int p1), some (.int (0 : Int32)), some (.int (0 : Int32)), none]) dX2_toBeMended_3 (Nat.le_of_ble_eq_true rfl) rfl ?_
  refine pv_loop (body := (f_X2_toBeMended_b4 b p1 μ)) (pcE := 42) (lsf := fun v4 => [some (.ref b), some (.int p1), some (.int v4.1), some (.int v4.2), none]) (mf := fun v4 => μ) (lsE := fun e4 => [none, none, some (.int e4), none, none]) (mE := fun e4 => μ) (fun e4 => ?_) (fun E4 hE4 T4 hT4 v4 => ?_) 5000 ((0 : Int32), (0 : Int32))
  · refine pv_iload_n dX2_toBeMended_42 rfl ?_
    exact pv_iret dX2_toBeMended_43 rfl rfl rfl
  · unfold f_X2_toBeMended_b4
    refine pv_iload_n dX2_toBeMended_4 rfl ?_
    refine pv_bipush (v := 7) dX2_toBeMended_5 (by decide) ?_
    refine pv_icmp_ge (tgt := 42) dX2_toBeMended_7 (by decide) ?_ ?_
    · refine pv_mask (ls' := [none, none, some (.int v4.1), none, none]) [false, false, true, false, false] rfl ?_
      exact hE4 v4.1
    · refine pv_aload_n dX2_toBeMended_10 rfl ?_
      refine pv_iload_n dX2_toBeMended_11 rfl ?_
      refine pv_iload_n dX2_toBeMended_12 rfl ?_
      refine pv_cv_ri (rest := []) dX2_toBeMended_13 my_X2_strengthBetween vl_X2_52 (k_X2_strengthBetween l sh b hb p1 v4.2 μ) hb0 rfl rfl ⟨rfl, rfl, Nat.le_of_ble_eq_true rfl, Nat.le_of_ble_eq_true rfl⟩ ⟨Nat.zero_le _, Nat.zero_le _⟩ (Nat.le_of_ble_eq_true rfl) rfl (fun r1 => ?_)
      refine pv_istore (ls' := [some (.ref b), some (.int p1), some (.int v4.1), some (.int v4.2), some (.int r1)]) dX2_toBeMended_16 (Nat.le_of_ble_eq_true rfl) rfl ?_
      refine pv_iload dX2_toBeMended_18 rfl ?_
      refine pv_jn (pcJ := 36) (lsJ := fun a2 => [some (.ref b), some (.int p1), some (.int a2), some (.int v4.2), none]) (stJ := fun a2 => []) (mJ := fun a2 => μ) (fun a2 => ?_) (fun j36 hj36 => ?_)
      · refine pv_iinc (v := (v4.2 + 1)) (ls' := [some (.ref b), some (.int p1), some (.int a2), some (.int (v4.2 + 1)), none]) dX2_toBeMended_36 rfl rfl (Nat.le_of_ble_eq_true rfl) rfl ?_
        refine pv_goto (tgt := 4) dX2_toBeMended_39 (by decide) ?_
        exact hT4 (a2, (v4.2 + 1))
      · refine pv_if_lt (tgt := 36) dX2_toBeMended_20 (by decide) ?_ ?_
        · refine pv_mask (ls' := [some (.ref b), some (.int p1), some (.int v4.1), some (.int v4.2), none]) [true, true, true, true, false] rfl ?_
          exact hj36 v4.1
        · refine pv_iload dX2_toBeMended_23 rfl ?_
          refine pv_bipush (v := 9) dX2_toBeMended_25 (by decide) ?_
          refine pv_icmp_ge (tgt := 36) dX2_toBeMended_27 (by decide) ?_ ?_
          · refine pv_mask (ls' := [some (.ref b), some (.int p1), some (.int v4.1), some (.int v4.2), none]) [true, true, true, true, false] rfl ?_
            exact hj36 v4.1
          · refine pv_iload_n dX2_toBeMended_30 rfl ?_
            refine pv_iconst (v := 1) dX2_toBeMended_31 (by decide) ?_
            refine pv_iload_n dX2_toBeMended_32 rfl ?_
            refine pv_ishl dX2_toBeMended_33 ?_
            refine pv_ior dX2_toBeMended_34 ?_
            refine pv_let (fun x3 => ?_)
            refine pv_istore_n (ls' := [some (.ref b), some (.int p1), some (.int x3), some (.int v4.2), some (.int r1)]) dX2_toBeMended_35 (Nat.le_of_ble_eq_true rfl) rfl ?_
            refine pv_mask (ls' := [some (.ref b), some (.int p1), some (.int x3), some (.int v4.2), none]) [true, true, true, true, false] rfl ?_
            exact hj36 x3
def f_X2_whyNoWalk (b : Nat) (p1 : Int32) (p2 : Int32) (μ : pm_M) : Option Int32 :=
  (f_X2_placeOf b p1 μ).bind (fun r1 => (if r1 = p2 then (some (1 : Int32)) else (f_X2_placeOf b p1 μ).bind (fun r2 => (f_X2_milesBetween b r2 p2 μ).bind (fun r3 => (if r3 = 0 then (some (2 : Int32)) else (some (0 : Int32)))))))
abbrev rm_X2_whyNoWalk : Room := { frames := 2, cells := 0, slots := 0, locals := 42 }
set_option maxRecDepth 20000 in
set_option maxHeartbeats 2000000 in
theorem k_X2_whyNoWalk (l : Launch) (sh : pm_S) (b : Nat) (hb : is_X2 sh b) (p1 : Int32) (p2 : Int32) (μ : pm_M) : pm_Ok l yX2_whyNoWalk cX2_whyNoWalk 3 (some .int) rm_X2_whyNoWalk [.ref b, .int p1, .int p2] sh false sh 0 0 (fun r => (some (.int r), μ)) μ (f_X2_whyNoWalk b p1 p2 μ) := by
  obtain ⟨hb0, hb1, hb2, hb3, hb4⟩ := id hb
  refine pm_enter (own := RX2) (by decide) rfl (fun h => by cases h) (ls := [some (.ref b), some (.int p1), some (.int p2)]) rfl (fun _ => Nat.le_of_ble_eq_true rfl) ?_
  unfold f_X2_whyNoWalk
  refine pv_aload_n dX2_whyNoWalk_0 rfl ?_
  refine pv_iload_n dX2_whyNoWalk_1 rfl ?_
  refine pv_cv_ri (rest := []) dX2_whyNoWalk_2 my_X2_placeOf vl_X2_69 (k_X2_placeOf l sh b hb p1 μ) hb0 rfl rfl ⟨rfl, rfl, Nat.le_of_ble_eq_true rfl, Nat.le_of_ble_eq_true rfl⟩ ⟨Nat.zero_le _, Nat.zero_le _⟩ (Nat.le_of_ble_eq_true rfl) rfl (fun r1 => ?_)
  refine pv_iload_n dX2_whyNoWalk_5 rfl ?_
  refine pv_icmp_ne (tgt := 11) dX2_whyNoWalk_6 (by decide) ?_ ?_
  · refine pv_aload_n dX2_whyNoWalk_11 rfl ?_
    refine pv_aload_n dX2_whyNoWalk_12 rfl ?_
    refine pv_iload_n dX2_whyNoWalk_13 rfl ?_
    refine pv_cv_ri (rest := [.ref b]) dX2_whyNoWalk_14 my_X2_placeOf vl_X2_69 (k_X2_placeOf l sh b hb p1 μ) hb0 rfl rfl ⟨rfl, rfl, Nat.le_of_ble_eq_true rfl, Nat.le_of_ble_eq_true rfl⟩ ⟨Nat.zero_le _, Nat.zero_le _⟩ (Nat.le_of_ble_eq_true rfl) rfl (fun r2 => ?_)
    refine pv_iload_n dX2_whyNoWalk_17 rfl ?_
    refine pv_cv_ri (rest := []) dX2_whyNoWalk_18 my_X2_milesBetween vl_X2_72 (k_X2_milesBetween l sh b hb r2 p2 μ) hb0 rfl rfl ⟨rfl, rfl, Nat.le_of_ble_eq_true rfl, Nat.le_of_ble_eq_true rfl⟩ ⟨Nat.zero_le _, Nat.zero_le _⟩ (Nat.le_of_ble_eq_true rfl) rfl (fun r3 => ?_)
    refine pv_if_ne (tgt := 28) dX2_whyNoWalk_21 (by decide) ?_ ?_
    · refine pv_iconst (v := 0) dX2_whyNoWalk_28 (by decide) ?_
      exact pv_iret dX2_whyNoWalk_29 rfl rfl rfl
    · refine pv_iconst (v := 2) dX2_whyNoWalk_24 (by decide) ?_
      refine pv_goto (tgt := 29) dX2_whyNoWalk_25 (by decide) ?_
      exact pv_iret dX2_whyNoWalk_29 rfl rfl rfl
  · refine pv_iconst (v := 1) dX2_whyNoWalk_9 (by decide) ?_
    exact pv_iret dX2_whyNoWalk_10 rfl rfl rfl
def f_X2_whyNotFrom (p0 : Int32) (p1 : Int32) : Option Int32 :=
  (if 0 ≤ p0 then (if p0 = p1 then (some (5 : Int32)) else (some (0 : Int32))) else (some (4 : Int32)))
abbrev rm_X2_whyNotFrom : Room := { frames := 0, cells := 0, slots := 0, locals := 0 }
set_option maxRecDepth 20000 in
set_option maxHeartbeats 2000000 in
theorem k_X2_whyNotFrom (l : Launch) (sh : pm_S) (p0 : Int32) (p1 : Int32) (μ : pm_M) : pm_Ok l yX2_whyNotFrom cX2_whyNotFrom 2 (some .int) rm_X2_whyNotFrom [.int p0, .int p1] sh false sh 0 0 (fun r => (some (.int r), μ)) μ (f_X2_whyNotFrom p0 p1) := by
  refine pm_enter (own := RX2) (by decide) rfl (fun h => by cases h) (ls := [some (.int p0), some (.int p1)]) rfl (fun _ => Nat.le_of_ble_eq_true rfl) ?_
  unfold f_X2_whyNotFrom
  refine pv_iload_n dX2_whyNotFrom_0 rfl ?_
  refine pv_if_ge (tgt := 6) dX2_whyNotFrom_1 (by decide) ?_ ?_
  · refine pv_iload_n dX2_whyNotFrom_6 rfl ?_
    refine pv_iload_n dX2_whyNotFrom_7 rfl ?_
    refine pv_icmp_ne (tgt := 15) dX2_whyNotFrom_8 (by decide) ?_ ?_
    · refine pv_iconst (v := 0) dX2_whyNotFrom_15 (by decide) ?_
      exact pv_iret dX2_whyNotFrom_16 rfl rfl rfl
    · refine pv_iconst (v := 5) dX2_whyNotFrom_11 (by decide) ?_
      refine pv_goto (tgt := 16) dX2_whyNotFrom_12 (by decide) ?_
      exact pv_iret dX2_whyNotFrom_16 rfl rfl rfl
  · refine pv_iconst (v := 4) dX2_whyNotFrom_4 (by decide) ?_
    exact pv_iret dX2_whyNotFrom_5 rfl rfl rfl
def f_X2_whyNoMending (b : Nat) (p1 : Int32) (μ : pm_M) : Option Int32 :=
  (f_X2_placeOf b p1 μ).bind (fun r1 => (if r1 = p1 then (some (3 : Int32)) else (f_X2_placeOf b p1 μ).bind (fun r2 => (f_X2_strengthBetween b p1 r2 μ).bind (fun r3 => (f_X2_whyNotFrom r3 (9 : Int32)).bind (fun r4 => (some r4))))))
abbrev rm_X2_whyNoMending : Room := { frames := 2, cells := 0, slots := 0, locals := 42 }
set_option maxRecDepth 20000 in
set_option maxHeartbeats 2000000 in
theorem k_X2_whyNoMending (l : Launch) (sh : pm_S) (b : Nat) (hb : is_X2 sh b) (p1 : Int32) (μ : pm_M) : pm_Ok l yX2_whyNoMending cX2_whyNoMending 2 (some .int) rm_X2_whyNoMending [.ref b, .int p1] sh false sh 0 0 (fun r => (some (.int r), μ)) μ (f_X2_whyNoMending b p1 μ) := by
  obtain ⟨hb0, hb1, hb2, hb3, hb4⟩ := id hb
  refine pm_enter (own := RX2) (by decide) rfl (fun h => by cases h) (ls := [some (.ref b), some (.int p1)]) rfl (fun _ => Nat.le_of_ble_eq_true rfl) ?_
  unfold f_X2_whyNoMending
  refine pv_aload_n dX2_whyNoMending_0 rfl ?_
  refine pv_iload_n dX2_whyNoMending_1 rfl ?_
  refine pv_cv_ri (rest := []) dX2_whyNoMending_2 my_X2_placeOf vl_X2_69 (k_X2_placeOf l sh b hb p1 μ) hb0 rfl rfl ⟨rfl, rfl, Nat.le_of_ble_eq_true rfl, Nat.le_of_ble_eq_true rfl⟩ ⟨Nat.zero_le _, Nat.zero_le _⟩ (Nat.le_of_ble_eq_true rfl) rfl (fun r1 => ?_)
  refine pv_iload_n dX2_whyNoMending_5 rfl ?_
  refine pv_icmp_ne (tgt := 11) dX2_whyNoMending_6 (by decide) ?_ ?_
  · refine pv_aload_n dX2_whyNoMending_11 rfl ?_
    refine pv_iload_n dX2_whyNoMending_12 rfl ?_
    refine pv_aload_n dX2_whyNoMending_13 rfl ?_
    refine pv_iload_n dX2_whyNoMending_14 rfl ?_
    refine pv_cv_ri (rest := [.int p1, .ref b]) dX2_whyNoMending_15 my_X2_placeOf vl_X2_69 (k_X2_placeOf l sh b hb p1 μ) hb0 rfl rfl ⟨rfl, rfl, Nat.le_of_ble_eq_true rfl, Nat.le_of_ble_eq_true rfl⟩ ⟨Nat.zero_le _, Nat.zero_le _⟩ (Nat.le_of_ble_eq_true rfl) rfl (fun r2 => ?_)
    refine pv_cv_ri (rest := []) dX2_whyNoMending_18 my_X2_strengthBetween vl_X2_52 (k_X2_strengthBetween l sh b hb p1 r2 μ) hb0 rfl rfl ⟨rfl, rfl, Nat.le_of_ble_eq_true rfl, Nat.le_of_ble_eq_true rfl⟩ ⟨Nat.zero_le _, Nat.zero_le _⟩ (Nat.le_of_ble_eq_true rfl) rfl (fun r3 => ?_)
    refine pv_bipush (v := 9) dX2_whyNoMending_21 (by decide) ?_
    refine pv_cs_ri (rest := []) dX2_whyNoMending_23 my_X2_whyNotFrom sl_X2_75 (k_X2_whyNotFrom l sh r3 (9 : Int32) μ) rfl ⟨rfl, rfl, Nat.le_of_ble_eq_true rfl, Nat.le_of_ble_eq_true rfl⟩ ⟨Nat.zero_le _, Nat.zero_le _⟩ (Nat.le_of_ble_eq_true rfl) rfl (fun r4 => ?_)
    exact pv_iret dX2_whyNoMending_26 rfl rfl rfl
  · refine pv_iconst (v := 3) dX2_whyNoMending_9 (by decide) ?_
    exact pv_iret dX2_whyNoMending_10 rfl rfl rfl
def f_X2_whyNoBreaking (b : Nat) (p1 : Int32) (p2 : Int32) (μ : pm_M) : Option Int32 :=
  (f_X2_placeOf b p1 μ).bind (fun r1 => (if r1 = p1 then (f_X2_strengthBetween b p1 p2 μ).bind (fun r2 => (f_X2_whyNotFrom r2 (0 : Int32)).bind (fun r3 => (some r3))) else (some (3 : Int32))))
abbrev rm_X2_whyNoBreaking : Room := { frames := 2, cells := 0, slots := 0, locals := 42 }
set_option maxRecDepth 20000 in
set_option maxHeartbeats 2000000 in
theorem k_X2_whyNoBreaking (l : Launch) (sh : pm_S) (b : Nat) (hb : is_X2 sh b) (p1 : Int32) (p2 : Int32) (μ : pm_M) : pm_Ok l yX2_whyNoBreaking cX2_whyNoBreaking 3 (some .int) rm_X2_whyNoBreaking [.ref b, .int p1, .int p2] sh false sh 0 0 (fun r => (some (.int r), μ)) μ (f_X2_whyNoBreaking b p1 p2 μ) := by
  obtain ⟨hb0, hb1, hb2, hb3, hb4⟩ := id hb
  refine pm_enter (own := RX2) (by decide) rfl (fun h => by cases h) (ls := [some (.ref b), some (.int p1), some (.int p2)]) rfl (fun _ => Nat.le_of_ble_eq_true rfl) ?_
  unfold f_X2_whyNoBreaking
  refine pv_aload_n dX2_whyNoBreaking_0 rfl ?_
  refine pv_iload_n dX2_whyNoBreaking_1 rfl ?_
  refine pv_cv_ri (rest := []) dX2_whyNoBreaking_2 my_X2_placeOf vl_X2_69 (k_X2_placeOf l sh b hb p1 μ) hb0 rfl rfl ⟨rfl, rfl, Nat.le_of_ble_eq_true rfl, Nat.le_of_ble_eq_true rfl⟩ ⟨Nat.zero_le _, Nat.zero_le _⟩ (Nat.le_of_ble_eq_true rfl) rfl (fun r1 => ?_)
  refine pv_iload_n dX2_whyNoBreaking_5 rfl ?_
  refine pv_icmp_eq (tgt := 11) dX2_whyNoBreaking_6 (by decide) ?_ ?_
  · refine pv_aload_n dX2_whyNoBreaking_11 rfl ?_
    refine pv_iload_n dX2_whyNoBreaking_12 rfl ?_
    refine pv_iload_n dX2_whyNoBreaking_13 rfl ?_
    refine pv_cv_ri (rest := []) dX2_whyNoBreaking_14 my_X2_strengthBetween vl_X2_52 (k_X2_strengthBetween l sh b hb p1 p2 μ) hb0 rfl rfl ⟨rfl, rfl, Nat.le_of_ble_eq_true rfl, Nat.le_of_ble_eq_true rfl⟩ ⟨Nat.zero_le _, Nat.zero_le _⟩ (Nat.le_of_ble_eq_true rfl) rfl (fun r2 => ?_)
    refine pv_iconst (v := 0) dX2_whyNoBreaking_17 (by decide) ?_
    refine pv_cs_ri (rest := []) dX2_whyNoBreaking_18 my_X2_whyNotFrom sl_X2_75 (k_X2_whyNotFrom l sh r2 (0 : Int32) μ) rfl ⟨rfl, rfl, Nat.le_of_ble_eq_true rfl, Nat.le_of_ble_eq_true rfl⟩ ⟨Nat.zero_le _, Nat.zero_le _⟩ (Nat.le_of_ble_eq_true rfl) rfl (fun r3 => ?_)
    exact pv_iret dX2_whyNoBreaking_21 rfl rfl rfl
  · refine pv_iconst (v := 3) dX2_whyNoBreaking_9 (by decide) ?_
    exact pv_iret dX2_whyNoBreaking_10 rfl rfl rfl
def f_X2_whyNot (b : Nat) (p1 : Int32) (p2 : Int32) (p3 : Int32) (μ : pm_M) : Option Int32 :=
  (pm_sw p1 [0, 1, 2, 3] [(f_X2_whyNoWalk b p2 p3 μ).bind (fun r1 => (some r1)), (f_X2_whyNoMending b p2 μ).bind (fun r2 => (some r2)), (f_X2_whyNoBreaking b p2 p3 μ).bind (fun r3 => (some r3)), (f_X2_countPales b μ).bind (fun r4 => (if r4 = 0 then (some (6 : Int32)) else (some (0 : Int32))))] ((if (μ b 4) < (99 : Int32) then (some (0 : Int32)) else (some (7 : Int32)))))
abbrev rm_X2_whyNot : Room := { frames := 3, cells := 0, slots := 0, locals := 64 }
set_option maxRecDepth 20000 in
set_option maxHeartbeats 2000000 in
theorem k_X2_whyNot (l : Launch) (sh : pm_S) (b : Nat) (hb : is_X2 sh b) (p1 : Int32) (p2 : Int32) (p3 : Int32) (μ : pm_M) : pm_Ok l yX2_whyNot cX2_whyNot 4 (some .int) rm_X2_whyNot [.ref b, .int p1, .int p2, .int p3] sh false sh 0 0 (fun r => (some (.int r), μ)) μ (f_X2_whyNot b p1 p2 p3 μ) := by
  obtain ⟨hb0, hb1, hb2, hb3, hb4⟩ := id hb
  refine pm_enter (own := RX2) (by decide) rfl (fun h => by cases h) (ls := [some (.ref b), some (.int p1), some (.int p2), some (.int p3)]) rfl (fun _ => Nat.le_of_ble_eq_true rfl) ?_
  unfold f_X2_whyNot
  refine pv_iload_n dX2_whyNot_0 rfl ?_
  refine pv_table (kys := [0, 1, 2, 3]) (ts := [32, 39, 45, 52]) (tD := 66) dX2_whyNot_1 rfl (by decide) (by decide) (by decide) (by decide) ⟨?_, ?_, ?_, ?_, trivial⟩ ?_
  · refine pv_aload_n dX2_whyNot_32 rfl ?_
    refine pv_iload_n dX2_whyNot_33 rfl ?_
    refine pv_iload_n dX2_whyNot_34 rfl ?_
    refine pv_cv_ri (rest := []) dX2_whyNot_35 my_X2_whyNoWalk vl_X2_55 (k_X2_whyNoWalk l sh b hb p2 p3 μ) hb0 rfl rfl ⟨rfl, rfl, Nat.le_of_ble_eq_true rfl, Nat.le_of_ble_eq_true rfl⟩ ⟨Nat.zero_le _, Nat.zero_le _⟩ (Nat.le_of_ble_eq_true rfl) rfl (fun r1 => ?_)
    exact pv_iret dX2_whyNot_38 rfl rfl rfl
  · refine pv_aload_n dX2_whyNot_39 rfl ?_
    refine pv_iload_n dX2_whyNot_40 rfl ?_
    refine pv_cv_ri (rest := []) dX2_whyNot_41 my_X2_whyNoMending vl_X2_58 (k_X2_whyNoMending l sh b hb p2 μ) hb0 rfl rfl ⟨rfl, rfl, Nat.le_of_ble_eq_true rfl, Nat.le_of_ble_eq_true rfl⟩ ⟨Nat.zero_le _, Nat.zero_le _⟩ (Nat.le_of_ble_eq_true rfl) rfl (fun r2 => ?_)
    exact pv_iret dX2_whyNot_44 rfl rfl rfl
  · refine pv_aload_n dX2_whyNot_45 rfl ?_
    refine pv_iload_n dX2_whyNot_46 rfl ?_
    refine pv_iload_n dX2_whyNot_47 rfl ?_
    refine pv_cv_ri (rest := []) dX2_whyNot_48 my_X2_whyNoBreaking vl_X2_62 (k_X2_whyNoBreaking l sh b hb p2 p3 μ) hb0 rfl rfl ⟨rfl, rfl, Nat.le_of_ble_eq_true rfl, Nat.le_of_ble_eq_true rfl⟩ ⟨Nat.zero_le _, Nat.zero_le _⟩ (Nat.le_of_ble_eq_true rfl) rfl (fun r3 => ?_)
    exact pv_iret dX2_whyNot_51 rfl rfl rfl
  · refine pv_aload_n dX2_whyNot_52 rfl ?_
    refine pv_cv_ri (rest := []) dX2_whyNot_53 my_X2_countPales vl_X2_65 (k_X2_countPales l sh b hb μ) hb0 rfl rfl ⟨rfl, rfl, Nat.le_of_ble_eq_true rfl, Nat.le_of_ble_eq_true rfl⟩ ⟨Nat.zero_le _, Nat.zero_le _⟩ (Nat.le_of_ble_eq_true rfl) rfl (fun r4 => ?_)
    refine pv_if_ne (tgt := 64) dX2_whyNot_56 (by decide) ?_ ?_
    · refine pv_iconst (v := 0) dX2_whyNot_64 (by decide) ?_
      exact pv_iret dX2_whyNot_65 rfl rfl rfl
    · refine pv_bipush (v := 6) dX2_whyNot_59 (by decide) ?_
      refine pv_goto (tgt := 65) dX2_whyNot_61 (by decide) ?_
      exact pv_iret dX2_whyNot_65 rfl rfl rfl
  · refine pv_aload_n dX2_whyNot_66 rfl ?_
    refine pv_geti dX2_whyNot_67 fl_X2_24 hb0 rfl ?_
    refine pv_bipush (v := 99) dX2_whyNot_70 (by decide) ?_
    refine pv_icmp_lt (tgt := 80) dX2_whyNot_72 (by decide) ?_ ?_
    · refine pv_iconst (v := 0) dX2_whyNot_80 (by decide) ?_
      exact pv_iret dX2_whyNot_81 rfl rfl rfl
    · refine pv_bipush (v := 7) dX2_whyNot_75 (by decide) ?_
      refine pv_goto (tgt := 81) dX2_whyNot_77 (by decide) ?_
      exact pv_iret dX2_whyNot_81 rfl rfl rfl
def f_X2_mendPale (b : Nat) (p1 : Int32) (p2 : Int32) (μ : pm_M) : Option pm_M :=
  (f_X2_strengthBetween b p1 p2 μ).bind (fun r1 => pm_let (if (r1 + (3 : Int32)) < (9 : Int32) then (r1 + (3 : Int32)) else (9 : Int32)) (fun x2 => (f_X2_setStrength b p1 p2 x2 μ).bind (fun m3 => (some m3))))
abbrev rm_X2_mendPale : Room := { frames := 3, cells := 0, slots := 0, locals := 64 }
set_option maxRecDepth 20000 in
set_option maxHeartbeats 2000000 in
theorem k_X2_mendPale (l : Launch) (sh : pm_S) (b : Nat) (hb : is_X2 sh b) (p1 : Int32) (p2 : Int32) (μ : pm_M) : pm_Ok l yX2_mendPale cX2_mendPale 3 none rm_X2_mendPale [.ref b, .int p1, .int p2] sh false sh 0 0 (fun r => (none, r)) μ (f_X2_mendPale b p1 p2 μ) := by
  obtain ⟨hb0, hb1, hb2, hb3, hb4⟩ := id hb
  refine pm_enter (own := RX2) (by decide) rfl (fun h => by cases h) (ls := [some (.ref b), some (.int p1), some (.int p2)]) rfl (fun _ => Nat.le_of_ble_eq_true rfl) ?_
  unfold f_X2_mendPale
  refine pv_aload_n dX2_mendPale_0 rfl ?_
  refine pv_iload_n dX2_mendPale_1 rfl ?_
  refine pv_iload_n dX2_mendPale_2 rfl ?_
  refine pv_bipush (v := 9) dX2_mendPale_3 (by decide) ?_
  refine pv_aload_n dX2_mendPale_5 rfl ?_
  refine pv_iload_n dX2_mendPale_6 rfl ?_
  refine pv_iload_n dX2_mendPale_7 rfl ?_
  refine pv_cv_ri (rest := [.int (9 : Int32), .int p2, .int p1, .ref b]) dX2_mendPale_8 my_X2_strengthBetween vl_X2_52 (k_X2_strengthBetween l sh b hb p1 p2 μ) hb0 rfl rfl ⟨rfl, rfl, Nat.le_of_ble_eq_true rfl, Nat.le_of_ble_eq_true rfl⟩ ⟨Nat.zero_le _, Nat.zero_le _⟩ (Nat.le_of_ble_eq_true rfl) rfl (fun r1 => ?_)
  refine pv_iconst (v := 3) dX2_mendPale_11 (by decide) ?_
  refine pv_iadd dX2_mendPale_12 ?_
  refine pv_mmin dX2_mendPale_13 my_J9_min_7cf53 ⟨tw_395, tw_396⟩ (Nat.le_of_ble_eq_true rfl) (Nat.le_of_ble_eq_true rfl) ⟨Nat.zero_le _, Nat.zero_le _⟩ ?_
  refine pv_let (fun x2 => ?_)
  refine pv_cv_wv (rest := []) dX2_mendPale_16 my_X2_setStrength vl_X2_89 (k_X2_setStrength l sh b hb p1 p2 x2 μ) hb0 rfl rfl ⟨rfl, rfl, Nat.le_of_ble_eq_true rfl, Nat.le_of_ble_eq_true rfl⟩ ⟨Nat.zero_le _, Nat.zero_le _⟩ (Nat.le_of_ble_eq_true rfl) rfl (fun m3 => ?_)
  exact pv_vret dX2_mendPale_19 rfl rfl
def f_X2_blow_b2 (b : Nat) (p1 : Int32) (v2 : (Int32 × pm_M)) (T2 : ((Int32 × pm_M) → Option pm_M)) (E2 : (pm_M → Option pm_M)) : Option pm_M :=
  (if (49 : Int32) ≤ v2.1 then (E2 v2.2) else pm_ck v2.1 49 ((pm_jn (fun (a1 : pm_M) => (T2 ((v2.1 + 1), a1))) (fun j35 => (if (v2.2 (b + 1) (Int32.toNatClampNeg v2.1)) < 0 then (j35 v2.2) else pm_ck v2.1 49 (pm_let (if (0 : Int32) < ((v2.2 (b + 1) (Int32.toNatClampNeg v2.1)) - p1) then ((v2.2 (b + 1) (Int32.toNatClampNeg v2.1)) - p1) else (0 : Int32)) (fun x2 => pm_ck v2.1 49 (pm_let (pm_up v2.2 (b + 1) (Int32.toNatClampNeg v2.1) x2) (fun m3 => (j35 m3))))))))))
def f_X2_blow (b : Nat) (p1 : Int32) (μ : pm_M) : Option pm_M :=
  (pm_it (f_X2_blow_b2 b p1) 5000 ((0 : Int32), μ) (fun e2 => (some e2)))
abbrev rm_X2_blow : Room := { frames := 1, cells := 0, slots := 0, locals := 21 }
set_option maxRecDepth 20000 in
set_option maxHeartbeats 2000000 in
theorem k_X2_blow (l : Launch) (sh : pm_S) (b : Nat) (hb : is_X2 sh b) (p1 : Int32) (μ : pm_M) : pm_Ok l yX2_blow cX2_blow 3 none rm_X2_blow [.ref b, .int p1] sh false sh 0 0 (fun r => (none, r)) μ (f_X2_blow b p1 μ) := by
  obtain ⟨hb0, hb1, hb2, hb3, hb4⟩ := id hb
  refine pm_enter (own := RX2) (by decide) rfl (fun h => by cases h) (ls := [some (.ref b), some (.int p1), none]) rfl (fun _ => Nat.le_of_ble_eq_true rfl) ?_
  unfold f_X2_blow
  refine pv_iconst (v := 0) dX2_blow_0 (by decide) ?_
  refine pv_istore_n (ls' := [some (.ref b), some (.int p1), some (.int (0 : Int32))]) dX2_blow_1 (Nat.le_of_ble_eq_true rfl) rfl ?_
  refine pv_loop (body := (f_X2_blow_b2 b p1)) (pcE := 41) (lsf := fun v2 => [some (.ref b), some (.int p1), some (.int v2.1)]) (mf := fun v2 => v2.2) (lsE := fun e2 => [none, none, none]) (mE := fun e2 => e2) (fun e2 => ?_) (fun E2 hE2 T2 hT2 v2 => ?_) 5000 ((0 : Int32), μ)
  · exact pv_vret dX2_blow_41 rfl rfl
  · unfold f_X2_blow_b2
    refine pv_iload_n dX2_blow_2 rfl ?_
    refine pv_bipush (v := 49) dX2_blow_3 (by decide) ?_
    refine pv_icmp_ge (tgt := 41) dX2_blow_5 (by decide) ?_ ?_
    · refine pv_mask (ls' := [none, none, none]) [false, false, false] rfl ?_
      exact hE2 v2.2
    · refine pv_aload_n dX2_blow_8 rfl ?_
      refine pv_getr dX2_blow_9 fl_X2_9 hb0 rfl ?_
      refine pv_iload_n dX2_blow_12 rfl ?_
      refine pv_iald dX2_blow_13 hb1 ?_
      refine pv_jn (pcJ := 35) (lsJ := fun a1 => [some (.ref b), some (.int p1), some (.int v2.1)]) (stJ := fun a1 => []) (mJ := fun a1 => a1) (fun a1 => ?_) (fun j35 hj35 => ?_)
      · refine pv_iinc (v := (v2.1 + 1)) (ls' := [some (.ref b), some (.int p1), some (.int (v2.1 + 1))]) dX2_blow_35 rfl rfl (Nat.le_of_ble_eq_true rfl) rfl ?_
        refine pv_goto (tgt := 2) dX2_blow_38 (by decide) ?_
        exact hT2 ((v2.1 + 1), a1)
      · refine pv_if_lt (tgt := 35) dX2_blow_14 (by decide) ?_ ?_
        · exact hj35 v2.2
        · refine pv_aload_n dX2_blow_17 rfl ?_
          refine pv_getr dX2_blow_18 fl_X2_9 hb0 rfl ?_
          refine pv_iload_n dX2_blow_21 rfl ?_
          refine pv_iconst (v := 0) dX2_blow_22 (by decide) ?_
          refine pv_aload_n dX2_blow_23 rfl ?_
          refine pv_getr dX2_blow_24 fl_X2_9 hb0 rfl ?_
          refine pv_iload_n dX2_blow_27 rfl ?_
          refine pv_iald dX2_blow_28 hb1 ?_
          refine pv_iload_n dX2_blow_29 rfl ?_
          refine pv_isub dX2_blow_30 ?_
          refine pv_mmax dX2_blow_31 my_J9_max_7cf53 ⟨tw_398, tw_399⟩ (Nat.le_of_ble_eq_true rfl) (Nat.le_of_ble_eq_true rfl) ⟨Nat.zero_le _, Nat.zero_le _⟩ ?_
          refine pv_let (fun x2 => ?_)
          refine pv_iast dX2_blow_34 hb1 ?_
          refine pv_letM (fun m3 => ?_)
          exact hj35 m3
def f_X2_passDay_b12 (b : Nat) (v2 : (Int32 × pm_M)) (v12 : (Int32 × pm_M)) (T12 : ((Int32 × pm_M) → Option pm_M)) (E12 : (pm_M → Option pm_M)) : Option pm_M :=
  (if (7 : Int32) ≤ v12.1 then (E12 v12.2) else pm_ck (((7 : Int32) * v2.1) + v12.1) 49 ((pm_jn (fun (a2 : pm_M) => (T12 ((v12.1 + 1), a2))) (fun j68 => (if (v12.2 (b + 1) (Int32.toNatClampNeg (((7 : Int32) * v2.1) + v12.1))) = 0 then pm_ck v2.1 7 (pm_ck v12.1 7 ((f_J6_compare_7cf53 (v12.2 (b + 4) (Int32.toNatClampNeg v2.1)) (v12.2 (b + 4) (Int32.toNatClampNeg v12.1))).bind (fun r3 => pm_ck v2.1 7 (pm_ck v2.1 7 (pm_let (pm_up v12.2 (b + 4) (Int32.toNatClampNeg v2.1) ((v12.2 (b + 4) (Int32.toNatClampNeg v2.1)) - r3)) (fun m4 => pm_ck v12.1 7 (pm_ck v12.1 7 (pm_let (pm_up m4 (b + 4) (Int32.toNatClampNeg v12.1) ((m4 (b + 4) (Int32.toNatClampNeg v12.1)) + r3)) (fun m5 => (j68 m5)))))))))) else (j68 v12.2))))))
def f_X2_passDay_b2 (b : Nat) (v2 : (Int32 × pm_M)) (T2 : ((Int32 × pm_M) → Option pm_M)) (E2 : (pm_M → Option pm_M)) : Option pm_M :=
  (if (7 : Int32) ≤ v2.1 then (E2 v2.2) else pm_let (v2.1 + (1 : Int32)) (fun x1 => (pm_it (f_X2_passDay_b12 b v2) 5000 (x1, v2.2) (fun e12 => (T2 ((v2.1 + 1), e12))))))
def f_X2_passDay (b : Nat) (μ : pm_M) : Option pm_M :=
  (pm_it (f_X2_passDay_b2 b) 5000 ((0 : Int32), μ) (fun e2 => pm_let (pm_up e2 b 4 ((e2 b 4) + (1 : Int32))) (fun m6 => (some m6))))
abbrev rm_X2_passDay : Room := { frames := 1, cells := 0, slots := 0, locals := 21 }
set_option maxRecDepth 20000 in
set_option maxHeartbeats 2000000 in
theorem k_X2_passDay (l : Launch) (sh : pm_S) (b : Nat) (hb : is_X2 sh b) (μ : pm_M) : pm_Ok l yX2_passDay cX2_passDay 4 none rm_X2_passDay [.ref b] sh false sh 0 0 (fun r => (none, r)) μ (f_X2_passDay b μ) := by
  obtain ⟨hb0, hb1, hb2, hb3, hb4⟩ := id hb
  refine pm_enter (own := RX2) (by decide) rfl (fun h => by cases h) (ls := [some (.ref b), none, none, none]) rfl (fun _ => Nat.le_of_ble_eq_true rfl) ?_
  unfold f_X2_passDay
  refine pv_iconst (v := 0) dX2_passDay_0 (by decide) ?_
  refine pv_istore_n (ls' := [some (.ref b), some (.int (0 : Int32)), none, none]) dX2_passDay_1 (Nat.le_of_ble_eq_true rfl) rfl ?_
  refine pv_loop (body := (f_X2_passDay_b2 b)) (pcE := 80) (lsf := fun v2 => [some (.ref b), some (.int v2.1), none, none]) (mf := fun v2 => v2.2) (lsE := fun e2 => [some (.ref b), none, none, none]) (mE := fun e2 => e2) (fun e2 => ?_) (fun E2 hE2 T2 hT2 v2 => ?_) 5000 ((0 : Int32), μ)
  · refine pv_aload_n dX2_passDay_80 rfl ?_
    refine pv_dup dX2_passDay_81 rfl ?_
    refine pv_geti dX2_passDay_82 fl_X2_24 hb0 rfl ?_
    refine pv_iconst (v := 1) dX2_passDay_85 (by decide) ?_
    refine pv_iadd dX2_passDay_86 ?_
    refine pv_puti dX2_passDay_87 fp_X2_24 hb0 rfl rfl rfl ?_
    refine pv_letM (fun m6 => ?_)
    exact pv_vret dX2_passDay_90 rfl rfl
  · unfold f_X2_passDay_b2
    refine pv_iload_n dX2_passDay_2 rfl ?_
    refine pv_bipush (v := 7) dX2_passDay_3 (by decide) ?_
    refine pv_icmp_ge (tgt := 80) dX2_passDay_5 (by decide) ?_ ?_
    · refine pv_mask (ls' := [some (.ref b), none, none, none]) [true, false, false, false] rfl ?_
      exact hE2 v2.2
    · refine pv_iload_n dX2_passDay_8 rfl ?_
      refine pv_iconst (v := 1) dX2_passDay_9 (by decide) ?_
      refine pv_iadd dX2_passDay_10 ?_
      refine pv_let (fun x1 => ?_)
      refine pv_istore_n (ls' := [some (.ref b), some (.int v2.1), some (.int x1), none]) dX2_passDay_11 (Nat.le_of_ble_eq_true rfl) rfl ?_
      refine pv_loop (body := (f_X2_passDay_b12 b v2)) (pcE := 74) (lsf := fun v12 => [some (.ref b), some (.int v2.1), some (.int v12.1), none]) (mf := fun v12 => v12.2) (lsE := fun e12 => [some (.ref b), some (.int v2.1), none, none]) (mE := fun e12 => e12) (fun e12 => ?_) (fun E12 hE12 T12 hT12 v12 => ?_) 5000 (x1, v2.2)
      · refine pv_iinc (v := (v2.1 + 1)) (ls' := [some (.ref b), some (.int (v2.1 + 1)), none, none]) dX2_passDay_74 rfl rfl (Nat.le_of_ble_eq_true rfl) rfl ?_
        refine pv_goto (tgt := 2) dX2_passDay_77 (by decide) ?_
        exact hT2 ((v2.1 + 1), e12)
      · unfold f_X2_passDay_b12
        refine pv_iload_n dX2_passDay_12 rfl ?_
        refine pv_bipush (v := 7) dX2_passDay_13 (by decide) ?_
        refine pv_icmp_ge (tgt := 74) dX2_passDay_15 (by decide) ?_ ?_
        · refine pv_mask (ls' := [some (.ref b), some (.int v2.1), none, none]) [true, true, false, false] rfl ?_
          exact hE12 v12.2
        · refine pv_aload_n dX2_passDay_18 rfl ?_
          refine pv_getr dX2_passDay_19 fl_X2_9 hb0 rfl ?_
          refine pv_bipush (v := 7) dX2_passDay_22 (by decide) ?_
          refine pv_iload_n dX2_passDay_24 rfl ?_
          refine pv_imul dX2_passDay_25 ?_
          refine pv_iload_n dX2_passDay_26 rfl ?_
          refine pv_iadd dX2_passDay_27 ?_
          refine pv_iald dX2_passDay_28 hb1 ?_
          refine pv_jn (pcJ := 68) (lsJ := fun a2 => [some (.ref b), some (.int v2.1), some (.int v12.1), none]) (stJ := fun a2 => []) (mJ := fun a2 => a2) (fun a2 => ?_) (fun j68 hj68 => ?_)
          · refine pv_iinc (v := (v12.1 + 1)) (ls' := [some (.ref b), some (.int v2.1), some (.int (v12.1 + 1)), none]) dX2_passDay_68 rfl rfl (Nat.le_of_ble_eq_true rfl) rfl ?_
            refine pv_goto (tgt := 12) dX2_passDay_71 (by decide) ?_
            exact hT12 ((v12.1 + 1), a2)
          · refine pv_if_ne (tgt := 68) dX2_passDay_29 (by decide) ?_ ?_
            · exact hj68 v12.2
            · refine pv_aload_n dX2_passDay_32 rfl ?_
              refine pv_getr dX2_passDay_33 fl_X2_21 hb0 rfl ?_
              refine pv_iload_n dX2_passDay_36 rfl ?_
              refine pv_iald dX2_passDay_37 hb4 ?_
              refine pv_aload_n dX2_passDay_38 rfl ?_
              refine pv_getr dX2_passDay_39 fl_X2_21 hb0 rfl ?_
              refine pv_iload_n dX2_passDay_42 rfl ?_
              refine pv_iald dX2_passDay_43 hb4 ?_
              refine pv_cs_ri (rest := []) dX2_passDay_44 my_J6_compare_7cf53 sl_X2_107 (k_J6_compare_7cf53 l sh (v12.2 (b + 4) (Int32.toNatClampNeg v2.1)) (v12.2 (b + 4) (Int32.toNatClampNeg v12.1)) v12.2) rfl ⟨rfl, rfl, Nat.le_of_ble_eq_true rfl, Nat.le_of_ble_eq_true rfl⟩ ⟨Nat.zero_le _, Nat.zero_le _⟩ (Nat.le_of_ble_eq_true rfl) rfl (fun r3 => ?_)
              refine pv_istore_n (ls' := [some (.ref b), some (.int v2.1), some (.int v12.1), some (.int r3)]) dX2_passDay_47 (Nat.le_of_ble_eq_true rfl) rfl ?_
              refine pv_aload_n dX2_passDay_48 rfl ?_
              refine pv_getr dX2_passDay_49 fl_X2_21 hb0 rfl ?_
              refine pv_iload_n dX2_passDay_52 rfl ?_
              refine pv_dup2 dX2_passDay_53 rfl rfl ?_
              refine pv_iald dX2_passDay_54 hb4 ?_
              refine pv_iload_n dX2_passDay_55 rfl ?_
              refine pv_isub dX2_passDay_56 ?_
              refine pv_iast dX2_passDay_57 hb4 ?_
              refine pv_letM (fun m4 => ?_)
              refine pv_aload_n dX2_passDay_58 rfl ?_
              refine pv_getr dX2_passDay_59 fl_X2_21 hb0 rfl ?_
              refine pv_iload_n dX2_passDay_62 rfl ?_
              refine pv_dup2 dX2_passDay_63 rfl rfl ?_
              refine pv_iald dX2_passDay_64 hb4 ?_
              refine pv_iload_n dX2_passDay_65 rfl ?_
              refine pv_iadd dX2_passDay_66 ?_
              refine pv_iast dX2_passDay_67 hb4 ?_
              refine pv_letM (fun m5 => ?_)
              refine pv_mask (ls' := [some (.ref b), some (.int v2.1), some (.int v12.1), none]) [true, true, true, false] rfl ?_
              exact hj68 m5
def f_X2_perform (b : Nat) (p1 : Int32) (p2 : Int32) (p3 : Int32) (μ : pm_M) : Option pm_M :=
  (pm_sw p1 [0, 1, 2, 3] [(f_X2_cowsOf b p2 μ).bind (fun r1 => (f_X2_settle b p2 r1 p3 μ).bind (fun m2 => (some m2))), (f_X2_placeOf b p2 μ).bind (fun r3 => (f_X2_mendPale b p2 r3 μ).bind (fun m4 => (some m4))), (f_X2_strengthBetween b p2 p3 μ).bind (fun r5 => (f_X2_setStrength b p2 p3 (r5 / (2 : Int32)) μ).bind (fun m6 => (some m6))), (f_X2_blow b p3 μ).bind (fun m7 => (some m7))] ((f_X2_passDay b μ).bind (fun m8 => (some m8))))
abbrev rm_X2_perform : Room := { frames := 4, cells := 0, slots := 0, locals := 86 }
set_option maxRecDepth 20000 in
set_option maxHeartbeats 2000000 in
theorem k_X2_perform (l : Launch) (sh : pm_S) (b : Nat) (hb : is_X2 sh b) (p1 : Int32) (p2 : Int32) (p3 : Int32) (μ : pm_M) : pm_Ok l yX2_perform cX2_perform 4 none rm_X2_perform [.ref b, .int p1, .int p2, .int p3] sh false sh 0 0 (fun r => (none, r)) μ (f_X2_perform b p1 p2 p3 μ) := by
  obtain ⟨hb0, hb1, hb2, hb3, hb4⟩ := id hb
  refine pm_enter (own := RX2) (by decide) rfl (fun h => by cases h) (ls := [some (.ref b), some (.int p1), some (.int p2), some (.int p3)]) rfl (fun _ => Nat.le_of_ble_eq_true rfl) ?_
  unfold f_X2_perform
  refine pv_iload_n dX2_perform_0 rfl ?_
  refine pv_table (kys := [0, 1, 2, 3]) (ts := [32, 46, 59, 76]) (tD := 84) dX2_perform_1 rfl (by decide) (by decide) (by decide) (by decide) ⟨?_, ?_, ?_, ?_, trivial⟩ ?_
  · refine pv_aload_n dX2_perform_32 rfl ?_
    refine pv_iload_n dX2_perform_33 rfl ?_
    refine pv_aload_n dX2_perform_34 rfl ?_
    refine pv_iload_n dX2_perform_35 rfl ?_
    refine pv_cv_ri (rest := [.int p2, .ref b]) dX2_perform_36 my_X2_cowsOf vl_X2_78 (k_X2_cowsOf l sh b hb p2 μ) hb0 rfl rfl ⟨rfl, rfl, Nat.le_of_ble_eq_true rfl, Nat.le_of_ble_eq_true rfl⟩ ⟨Nat.zero_le _, Nat.zero_le _⟩ (Nat.le_of_ble_eq_true rfl) rfl (fun r1 => ?_)
    refine pv_iload_n dX2_perform_39 rfl ?_
    refine pv_cv_wv (rest := []) dX2_perform_40 my_X2_settle vl_X2_81 (k_X2_settle l sh b hb p2 r1 p3 μ) hb0 rfl rfl ⟨rfl, rfl, Nat.le_of_ble_eq_true rfl, Nat.le_of_ble_eq_true rfl⟩ ⟨Nat.zero_le _, Nat.zero_le _⟩ (Nat.le_of_ble_eq_true rfl) rfl (fun m2 => ?_)
    refine pv_goto (tgt := 88) dX2_perform_43 (by decide) ?_
    exact pv_vret dX2_perform_88 rfl rfl
  · refine pv_aload_n dX2_perform_46 rfl ?_
    refine pv_iload_n dX2_perform_47 rfl ?_
    refine pv_aload_n dX2_perform_48 rfl ?_
    refine pv_iload_n dX2_perform_49 rfl ?_
    refine pv_cv_ri (rest := [.int p2, .ref b]) dX2_perform_50 my_X2_placeOf vl_X2_69 (k_X2_placeOf l sh b hb p2 μ) hb0 rfl rfl ⟨rfl, rfl, Nat.le_of_ble_eq_true rfl, Nat.le_of_ble_eq_true rfl⟩ ⟨Nat.zero_le _, Nat.zero_le _⟩ (Nat.le_of_ble_eq_true rfl) rfl (fun r3 => ?_)
    refine pv_cv_wv (rest := []) dX2_perform_53 my_X2_mendPale vl_X2_85 (k_X2_mendPale l sh b hb p2 r3 μ) hb0 rfl rfl ⟨rfl, rfl, Nat.le_of_ble_eq_true rfl, Nat.le_of_ble_eq_true rfl⟩ ⟨Nat.zero_le _, Nat.zero_le _⟩ (Nat.le_of_ble_eq_true rfl) rfl (fun m4 => ?_)
    refine pv_goto (tgt := 88) dX2_perform_56 (by decide) ?_
    exact pv_vret dX2_perform_88 rfl rfl
  · refine pv_aload_n dX2_perform_59 rfl ?_
    refine pv_iload_n dX2_perform_60 rfl ?_
    refine pv_iload_n dX2_perform_61 rfl ?_
    refine pv_aload_n dX2_perform_62 rfl ?_
    refine pv_iload_n dX2_perform_63 rfl ?_
    refine pv_iload_n dX2_perform_64 rfl ?_
    refine pv_cv_ri (rest := [.int p3, .int p2, .ref b]) dX2_perform_65 my_X2_strengthBetween vl_X2_52 (k_X2_strengthBetween l sh b hb p2 p3 μ) hb0 rfl rfl ⟨rfl, rfl, Nat.le_of_ble_eq_true rfl, Nat.le_of_ble_eq_true rfl⟩ ⟨Nat.zero_le _, Nat.zero_le _⟩ (Nat.le_of_ble_eq_true rfl) rfl (fun r5 => ?_)
    refine pv_iconst (v := 2) dX2_perform_68 (by decide) ?_
    refine pv_idiv dX2_perform_69 (by decide) ?_
    refine pv_cv_wv (rest := []) dX2_perform_70 my_X2_setStrength vl_X2_89 (k_X2_setStrength l sh b hb p2 p3 (r5 / (2 : Int32)) μ) hb0 rfl rfl ⟨rfl, rfl, Nat.le_of_ble_eq_true rfl, Nat.le_of_ble_eq_true rfl⟩ ⟨Nat.zero_le _, Nat.zero_le _⟩ (Nat.le_of_ble_eq_true rfl) rfl (fun m6 => ?_)
    refine pv_goto (tgt := 88) dX2_perform_73 (by decide) ?_
    exact pv_vret dX2_perform_88 rfl rfl
  · refine pv_aload_n dX2_perform_76 rfl ?_
    refine pv_iload_n dX2_perform_77 rfl ?_
    refine pv_cv_wv (rest := []) dX2_perform_78 my_X2_blow vl_X2_92 (k_X2_blow l sh b hb p3 μ) hb0 rfl rfl ⟨rfl, rfl, Nat.le_of_ble_eq_true rfl, Nat.le_of_ble_eq_true rfl⟩ ⟨Nat.zero_le _, Nat.zero_le _⟩ (Nat.le_of_ble_eq_true rfl) rfl (fun m7 => ?_)
    refine pv_goto (tgt := 88) dX2_perform_81 (by decide) ?_
    exact pv_vret dX2_perform_88 rfl rfl
  · refine pv_aload_n dX2_perform_84 rfl ?_
    refine pv_cv_wv (rest := []) dX2_perform_85 my_X2_passDay vl_X2_96 (k_X2_passDay l sh b hb μ) hb0 rfl rfl ⟨rfl, rfl, Nat.le_of_ble_eq_true rfl, Nat.le_of_ble_eq_true rfl⟩ ⟨Nat.zero_le _, Nat.zero_le _⟩ (Nat.le_of_ble_eq_true rfl) rfl (fun m8 => ?_)
    exact pv_vret dX2_perform_88 rfl rfl
def f_X2_gapMadeByWind_b12 (b : Nat) (p1 : Int32) (μ : pm_M) (v2 : Int32) (v12 : Int32) (T12 : (Int32 → Option Int32)) (E12 : (Unit → Option Int32)) : Option Int32 :=
  (if (7 : Int32) ≤ v12 then (E12 ()) else pm_ck (((7 : Int32) * v2) + v12) 49 (pm_let (μ (b + 1) (Int32.toNatClampNeg (((7 : Int32) * v2) + v12))) (fun x2 => (pm_jn (fun (a3 : Unit) => (T12 (v12 + 1))) (fun j49 => (if x2 ≤ 0 then (j49 ()) else (if p1 < x2 then (j49 ()) else (some (((10 : Int32) * v2) + v12)))))))))
def f_X2_gapMadeByWind_b2 (b : Nat) (p1 : Int32) (μ : pm_M) (v2 : Int32) (T2 : (Int32 → Option Int32)) (E2 : (Unit → Option Int32)) : Option Int32 :=
  (if (7 : Int32) ≤ v2 then (E2 ()) else pm_let (v2 + (1 : Int32)) (fun x1 => (pm_it (f_X2_gapMadeByWind_b12 b p1 μ v2) 5000 x1 (fun e12 => (T2 (v2 + 1))))))
def f_X2_gapMadeByWind (b : Nat) (p1 : Int32) (μ : pm_M) : Option Int32 :=
  (pm_it (f_X2_gapMadeByWind_b2 b p1 μ) 5000 (0 : Int32) (fun e2 => (some (-6 : Int32))))
abbrev rm_X2_gapMadeByWind : Room := { frames := 0, cells := 0, slots := 0, locals := 0 }
set_option maxRecDepth 20000 in
set_option maxHeartbeats 2000000 in
theorem k_X2_gapMadeByWind (l : Launch) (sh : pm_S) (b : Nat) (hb : is_X2 sh b) (p1 : Int32) (μ : pm_M) : pm_Ok l yX2_gapMadeByWind cX2_gapMadeByWind 5 (some .int) rm_X2_gapMadeByWind [.ref b, .int p1] sh false sh 0 0 (fun r => (some (.int r), μ)) μ (f_X2_gapMadeByWind b p1 μ) := by
  obtain ⟨hb0, hb1, hb2, hb3, hb4⟩ := id hb
  refine pm_enter (own := RX2) (by decide) rfl (fun h => by cases h) (ls := [some (.ref b), some (.int p1), none, none, none]) rfl (fun _ => Nat.le_of_ble_eq_true rfl) ?_
  unfold f_X2_gapMadeByWind
  refine pv_iconst (v := 0) dX2_gapMadeByWind_0 (by decide) ?_
  refine pv_istore_n (ls' := [some (.ref b), some (.int p1), some (.int (0 : Int32)), none, none]) dX2_gapMadeByWind_1 (Nat.le_of_ble_eq_true rfl) rfl ?_
  refine pv_loop (body := (f_X2_gapMadeByWind_b2 b p1 μ)) (pcE := 61) (lsf := fun v2 => [some (.ref b), some (.int p1), some (.int v2), none, none]) (mf := fun v2 => μ) (lsE := fun e2 => [none, none, none, none, none]) (mE := fun e2 => μ) (fun e2 => ?_) (fun E2 hE2 T2 hT2 v2 => ?_) 5000 (0 : Int32)
  · refine pv_bipush (v := (-6)) dX2_gapMadeByWind_61 (by decide) ?_
    exact pv_iret dX2_gapMadeByWind_63 rfl rfl rfl
  · unfold f_X2_gapMadeByWind_b2
    refine pv_iload_n dX2_gapMadeByWind_2 rfl ?_
    refine pv_bipush (v := 7) dX2_gapMadeByWind_3 (by decide) ?_
    refine pv_icmp_ge (tgt := 61) dX2_gapMadeByWind_5 (by decide) ?_ ?_
    · refine pv_mask (ls' := [none, none, none, none, none]) [false, false, false, false, false] rfl ?_
      exact hE2 ()
    · refine pv_iload_n dX2_gapMadeByWind_8 rfl ?_
      refine pv_iconst (v := 1) dX2_gapMadeByWind_9 (by decide) ?_
      refine pv_iadd dX2_gapMadeByWind_10 ?_
      refine pv_let (fun x1 => ?_)
      refine pv_istore_n (ls' := [some (.ref b), some (.int p1), some (.int v2), some (.int x1), none]) dX2_gapMadeByWind_11 (Nat.le_of_ble_eq_true rfl) rfl ?_
      refine pv_loop (body := (f_X2_gapMadeByWind_b12 b p1 μ v2)) (pcE := 55) (lsf := fun v12 => [some (.ref b), some (.int p1), some (.int v2), some (.int v12), none]) (mf := fun v12 => μ) (lsE := fun e12 => [some (.ref b), some (.int p1), some (.int v2), none, none]) (mE := fun e12 => μ) (fun e12 => ?_) (fun E12 hE12 T12 hT12 v12 => ?_) 5000 x1
      · refine pv_iinc (v := (v2 + 1)) (ls' := [some (.ref b), some (.int p1), some (.int (v2 + 1)), none, none]) dX2_gapMadeByWind_55 rfl rfl (Nat.le_of_ble_eq_true rfl) rfl ?_
        refine pv_goto (tgt := 2) dX2_gapMadeByWind_58 (by decide) ?_
        exact hT2 (v2 + 1)
      · unfold f_X2_gapMadeByWind_b12
        refine pv_iload_n dX2_gapMadeByWind_12 rfl ?_
        refine pv_bipush (v := 7) dX2_gapMadeByWind_13 (by decide) ?_
        refine pv_icmp_ge (tgt := 55) dX2_gapMadeByWind_15 (by decide) ?_ ?_
        · refine pv_mask (ls' := [some (.ref b), some (.int p1), some (.int v2), none, none]) [true, true, true, false, false] rfl ?_
          exact hE12 ()
        · refine pv_aload_n dX2_gapMadeByWind_18 rfl ?_
          refine pv_getr dX2_gapMadeByWind_19 fl_X2_9 hb0 rfl ?_
          refine pv_bipush (v := 7) dX2_gapMadeByWind_22 (by decide) ?_
          refine pv_iload_n dX2_gapMadeByWind_24 rfl ?_
          refine pv_imul dX2_gapMadeByWind_25 ?_
          refine pv_iload_n dX2_gapMadeByWind_26 rfl ?_
          refine pv_iadd dX2_gapMadeByWind_27 ?_
          refine pv_iald dX2_gapMadeByWind_28 hb1 ?_
          refine pv_let (fun x2 => ?_)
          refine pv_istore (ls' := [some (.ref b), some (.int p1), some (.int v2), some (.int v12), some (.int x2)]) dX2_gapMadeByWind_29 (Nat.le_of_ble_eq_true rfl) rfl ?_
          refine pv_iload dX2_gapMadeByWind_31 rfl ?_
          refine pv_jn (pcJ := 49) (lsJ := fun a3 => [some (.ref b), some (.int p1), some (.int v2), some (.int v12), none]) (stJ := fun a3 => []) (mJ := fun a3 => μ) (fun a3 => ?_) (fun j49 hj49 => ?_)
          · refine pv_iinc (v := (v12 + 1)) (ls' := [some (.ref b), some (.int p1), some (.int v2), some (.int (v12 + 1)), none]) dX2_gapMadeByWind_49 rfl rfl (Nat.le_of_ble_eq_true rfl) rfl ?_
            refine pv_goto (tgt := 12) dX2_gapMadeByWind_52 (by decide) ?_
            exact hT12 (v12 + 1)
          · refine pv_if_le (tgt := 49) dX2_gapMadeByWind_33 (by decide) ?_ ?_
            · refine pv_mask (ls' := [some (.ref b), some (.int p1), some (.int v2), some (.int v12), none]) [true, true, true, true, false] rfl ?_
              exact hj49 ()
            · refine pv_iload dX2_gapMadeByWind_36 rfl ?_
              refine pv_iload_n dX2_gapMadeByWind_38 rfl ?_
              refine pv_icmp_gt (tgt := 49) dX2_gapMadeByWind_39 (by decide) ?_ ?_
              · refine pv_mask (ls' := [some (.ref b), some (.int p1), some (.int v2), some (.int v12), none]) [true, true, true, true, false] rfl ?_
                exact hj49 ()
              · refine pv_bipush (v := 10) dX2_gapMadeByWind_42 (by decide) ?_
                refine pv_iload_n dX2_gapMadeByWind_44 rfl ?_
                refine pv_imul dX2_gapMadeByWind_45 ?_
                refine pv_iload_n dX2_gapMadeByWind_46 rfl ?_
                refine pv_iadd dX2_gapMadeByWind_47 ?_
                exact pv_iret dX2_gapMadeByWind_48 rfl rfl rfl
def f_X2_gapMadeBy (b : Nat) (p1 : Int32) (p2 : Int32) (p3 : Int32) (μ : pm_M) : Option Int32 :=
  (pm_jn (fun (a1 : Unit) => (if p1 = (3 : Int32) then (f_X2_gapMadeByWind b p3 μ).bind (fun r2 => (some r2)) else (some (-6 : Int32)))) (fun j30 => (if p1 = (2 : Int32) then (f_X2_strengthBetween b p2 p3 μ).bind (fun r3 => (if r3 = (1 : Int32) then pm_let (if p3 < p2 then p3 else p2) (fun x4 => pm_let (if p2 < p3 then p3 else p2) (fun x5 => (some (((10 : Int32) * x4) + x5)))) else (j30 ()))) else (j30 ()))))
abbrev rm_X2_gapMadeBy : Room := { frames := 2, cells := 0, slots := 0, locals := 42 }
set_option maxRecDepth 20000 in
set_option maxHeartbeats 2000000 in
theorem k_X2_gapMadeBy (l : Launch) (sh : pm_S) (b : Nat) (hb : is_X2 sh b) (p1 : Int32) (p2 : Int32) (p3 : Int32) (μ : pm_M) : pm_Ok l yX2_gapMadeBy cX2_gapMadeBy 4 (some .int) rm_X2_gapMadeBy [.ref b, .int p1, .int p2, .int p3] sh false sh 0 0 (fun r => (some (.int r), μ)) μ (f_X2_gapMadeBy b p1 p2 p3 μ) := by
  obtain ⟨hb0, hb1, hb2, hb3, hb4⟩ := id hb
  refine pm_enter (own := RX2) (by decide) rfl (fun h => by cases h) (ls := [some (.ref b), some (.int p1), some (.int p2), some (.int p3)]) rfl (fun _ => Nat.le_of_ble_eq_true rfl) ?_
  unfold f_X2_gapMadeBy
  refine pv_iload_n dX2_gapMadeBy_0 rfl ?_
  refine pv_iconst (v := 2) dX2_gapMadeBy_1 (by decide) ?_
  refine pv_jn (pcJ := 30) (lsJ := fun a1 => [some (.ref b), some (.int p1), none, some (.int p3)]) (stJ := fun a1 => []) (mJ := fun a1 => μ) (fun a1 => ?_) (fun j30 hj30 => ?_)
  · refine pv_iload_n dX2_gapMadeBy_30 rfl ?_
    refine pv_iconst (v := 3) dX2_gapMadeBy_31 (by decide) ?_
    refine pv_icmp_ne (tgt := 43) dX2_gapMadeBy_32 (by decide) ?_ ?_
    · refine pv_bipush (v := (-6)) dX2_gapMadeBy_43 (by decide) ?_
      exact pv_iret dX2_gapMadeBy_45 rfl rfl rfl
    · refine pv_aload_n dX2_gapMadeBy_35 rfl ?_
      refine pv_iload_n dX2_gapMadeBy_36 rfl ?_
      refine pv_cv_ri (rest := []) dX2_gapMadeBy_37 my_X2_gapMadeByWind vl_X2_112 (k_X2_gapMadeByWind l sh b hb p3 μ) hb0 rfl rfl ⟨rfl, rfl, Nat.le_of_ble_eq_true rfl, Nat.le_of_ble_eq_true rfl⟩ ⟨Nat.zero_le _, Nat.zero_le _⟩ (Nat.le_of_ble_eq_true rfl) rfl (fun r2 => ?_)
      refine pv_goto (tgt := 45) dX2_gapMadeBy_40 (by decide) ?_
      exact pv_iret dX2_gapMadeBy_45 rfl rfl rfl
  · refine pv_icmp_ne (tgt := 30) dX2_gapMadeBy_2 (by decide) ?_ ?_
    · refine pv_mask (ls' := [some (.ref b), some (.int p1), none, some (.int p3)]) [true, true, false, true] rfl ?_
      exact hj30 ()
    · refine pv_aload_n dX2_gapMadeBy_5 rfl ?_
      refine pv_iload_n dX2_gapMadeBy_6 rfl ?_
      refine pv_iload_n dX2_gapMadeBy_7 rfl ?_
      refine pv_cv_ri (rest := []) dX2_gapMadeBy_8 my_X2_strengthBetween vl_X2_52 (k_X2_strengthBetween l sh b hb p2 p3 μ) hb0 rfl rfl ⟨rfl, rfl, Nat.le_of_ble_eq_true rfl, Nat.le_of_ble_eq_true rfl⟩ ⟨Nat.zero_le _, Nat.zero_le _⟩ (Nat.le_of_ble_eq_true rfl) rfl (fun r3 => ?_)
      refine pv_iconst (v := 1) dX2_gapMadeBy_11 (by decide) ?_
      refine pv_icmp_ne (tgt := 30) dX2_gapMadeBy_12 (by decide) ?_ ?_
      · refine pv_mask (ls' := [some (.ref b), some (.int p1), none, some (.int p3)]) [true, true, false, true] rfl ?_
        exact hj30 ()
      · refine pv_bipush (v := 10) dX2_gapMadeBy_15 (by decide) ?_
        refine pv_iload_n dX2_gapMadeBy_17 rfl ?_
        refine pv_iload_n dX2_gapMadeBy_18 rfl ?_
        refine pv_mmin dX2_gapMadeBy_19 my_J9_min_7cf53 ⟨tw_395, tw_396⟩ (Nat.le_of_ble_eq_true rfl) (Nat.le_of_ble_eq_true rfl) ⟨Nat.zero_le _, Nat.zero_le _⟩ ?_
        refine pv_let (fun x4 => ?_)
        refine pv_imul dX2_gapMadeBy_22 ?_
        refine pv_iload_n dX2_gapMadeBy_23 rfl ?_
        refine pv_iload_n dX2_gapMadeBy_24 rfl ?_
        refine pv_mmax dX2_gapMadeBy_25 my_J9_max_7cf53 ⟨tw_398, tw_399⟩ (Nat.le_of_ble_eq_true rfl) (Nat.le_of_ble_eq_true rfl) ⟨Nat.zero_le _, Nat.zero_le _⟩ ?_
        refine pv_let (fun x5 => ?_)
        refine pv_iadd dX2_gapMadeBy_28 ?_
        exact pv_iret dX2_gapMadeBy_29 rfl rfl rfl
def f_X2_drawnKind (p0 : Int32) : Option Int32 :=
  (if (2 : Int32) < p0 then (pm_sw p0 [3, 4, 5] [(some (1 : Int32)), (some (2 : Int32)), (some (3 : Int32))] ((some (4 : Int32)))) else (some (0 : Int32)))
abbrev rm_X2_drawnKind : Room := { frames := 0, cells := 0, slots := 0, locals := 0 }
set_option maxRecDepth 20000 in
set_option maxHeartbeats 2000000 in
theorem k_X2_drawnKind (l : Launch) (sh : pm_S) (p0 : Int32) (μ : pm_M) : pm_Ok l yX2_drawnKind cX2_drawnKind 1 (some .int) rm_X2_drawnKind [.int p0] sh false sh 0 0 (fun r => (some (.int r), μ)) μ (f_X2_drawnKind p0) := by
  refine pm_enter (own := RX2) (by decide) rfl (fun h => by cases h) (ls := [some (.int p0)]) rfl (fun _ => Nat.le_of_ble_eq_true rfl) ?_
  unfold f_X2_drawnKind
  refine pv_iload_n dX2_drawnKind_0 rfl ?_
  refine pv_iconst (v := 2) dX2_drawnKind_1 (by decide) ?_
  refine pv_icmp_gt (tgt := 7) dX2_drawnKind_2 (by decide) ?_ ?_
  · refine pv_iload_n dX2_drawnKind_7 rfl ?_
    refine pv_table (kys := [3, 4, 5]) (ts := [36, 38, 40]) (tD := 42) dX2_drawnKind_8 rfl (by decide) (by decide) (by decide) (by decide) ⟨?_, ?_, ?_, trivial⟩ ?_
    · refine pv_iconst (v := 1) dX2_drawnKind_36 (by decide) ?_
      exact pv_iret dX2_drawnKind_37 rfl rfl rfl
    · refine pv_iconst (v := 2) dX2_drawnKind_38 (by decide) ?_
      exact pv_iret dX2_drawnKind_39 rfl rfl rfl
    · refine pv_iconst (v := 3) dX2_drawnKind_40 (by decide) ?_
      exact pv_iret dX2_drawnKind_41 rfl rfl rfl
    · refine pv_iconst (v := 4) dX2_drawnKind_42 (by decide) ?_
      exact pv_iret dX2_drawnKind_43 rfl rfl rfl
  · refine pv_iconst (v := 0) dX2_drawnKind_5 (by decide) ?_
    exact pv_iret dX2_drawnKind_6 rfl rfl rfl
def f_X2_drawActs_b5 (b : Nat) (p2 : Int32) (v5 : (Int32 × Int32 × pm_M)) (T5 : ((Int32 × Int32 × pm_M) → Option pm_M)) (E5 : (pm_M → Option pm_M)) : Option pm_M :=
  (if p2 ≤ v5.2.1 then (E5 v5.2.2) else pm_let (pm_rem (((75 : Int32) * v5.1) + (74 : Int32)) (65537 : Int32)) (fun x1 => (f_X2_drawnKind (pm_rem (x1 / (7 : Int32)) (8 : Int32))).bind (fun r2 => pm_let (x1 / (56 : Int32)) (fun x3 => (pm_jn (fun (a4 : Int32) => (f_X2_whyNot b r2 (pm_rem x1 (7 : Int32)) a4 v5.2.2).bind (fun r5 => (pm_jn (fun (a6 : pm_M) => (T5 (x1, (v5.2.1 + 1), a6))) (fun j89 => (if r5 = 0 then (f_X2_perform b r2 (pm_rem x1 (7 : Int32)) a4 v5.2.2).bind (fun m7 => (j89 m7)) else (j89 v5.2.2)))))) (fun j60 => (if r2 = (3 : Int32) then (j60 ((1 : Int32) + (pm_rem x3 (3 : Int32)))) else (j60 (pm_rem x3 (7 : Int32))))))))))
def f_X2_drawActs (b : Nat) (p1 : Int32) (p2 : Int32) (μ : pm_M) : Option pm_M :=
  (pm_it (f_X2_drawActs_b5 b p2) 5000 (p1, (0 : Int32), μ) (fun e5 => (some e5)))
abbrev rm_X2_drawActs : Room := { frames := 5, cells := 0, slots := 0, locals := 109 }
set_option maxRecDepth 20000 in
set_option maxHeartbeats 2000000 in
theorem k_X2_drawActs (l : Launch) (sh : pm_S) (b : Nat) (hb : is_X2 sh b) (p1 : Int32) (p2 : Int32) (μ : pm_M) : pm_Ok l yX2_drawActs cX2_drawActs 8 none rm_X2_drawActs [.ref b, .int p1, .int p2] sh false sh 0 0 (fun r => (none, r)) μ (f_X2_drawActs b p1 p2 μ) := by
  obtain ⟨hb0, hb1, hb2, hb3, hb4⟩ := id hb
  refine pm_enter (own := RX2) (by decide) rfl (fun h => by cases h) (ls := [some (.ref b), some (.int p1), some (.int p2), none, none, none, none, none]) rfl (fun _ => Nat.le_of_ble_eq_true rfl) ?_
  unfold f_X2_drawActs
  refine pv_iload_n dX2_drawActs_0 rfl ?_
  refine pv_istore_n (ls' := [some (.ref b), some (.int p1), some (.int p2), some (.int p1), none, none, none, none]) dX2_drawActs_1 (Nat.le_of_ble_eq_true rfl) rfl ?_
  refine pv_iconst (v := 0) dX2_drawActs_2 (by decide) ?_
  refine pv_istore (ls' := [some (.ref b), some (.int p1), some (.int p2), some (.int p1), some (.int (0 : Int32)), none, none, none]) dX2_drawActs_3 (Nat.le_of_ble_eq_true rfl) rfl ?_
  refine pv_mask (ls' := [some (.ref b), none, some (.int p2), some (.int p1), some (.int (0 : Int32)), none, none, none]) [true, false, true, true, true, false, false, false] rfl ?_
  refine pv_loop (body := (f_X2_drawActs_b5 b p2)) (pcE := 95) (lsf := fun v5 => [some (.ref b), none, some (.int p2), some (.int v5.1), some (.int v5.2.1), none, none, none]) (mf := fun v5 => v5.2.2) (lsE := fun e5 => [none, none, none, none, none, none, none, none]) (mE := fun e5 => e5) (fun e5 => ?_) (fun E5 hE5 T5 hT5 v5 => ?_) 5000 (p1, (0 : Int32), μ)
  · exact pv_vret dX2_drawActs_95 rfl rfl
  · unfold f_X2_drawActs_b5
    refine pv_iload dX2_drawActs_5 rfl ?_
    refine pv_iload_n dX2_drawActs_7 rfl ?_
    refine pv_icmp_ge (tgt := 95) dX2_drawActs_8 (by decide) ?_ ?_
    · refine pv_mask (ls' := [none, none, none, none, none, none, none, none]) [false, false, false, false, false, false, false, false] rfl ?_
      exact hE5 v5.2.2
    · refine pv_bipush (v := 75) dX2_drawActs_11 (by decide) ?_
      refine pv_iload_n dX2_drawActs_13 rfl ?_
      refine pv_imul dX2_drawActs_14 ?_
      refine pv_bipush (v := 74) dX2_drawActs_15 (by decide) ?_
      refine pv_iadd dX2_drawActs_17 ?_
      refine pv_ldc dX2_drawActs_18 kc_X2_115 ?_
      refine pv_irem dX2_drawActs_20 (by decide) ?_
      refine pv_let (fun x1 => ?_)
      refine pv_istore_n (ls' := [some (.ref b), none, some (.int p2), some (.int x1), some (.int v5.2.1), none, none, none]) dX2_drawActs_21 (Nat.le_of_ble_eq_true rfl) rfl ?_
      refine pv_iload_n dX2_drawActs_22 rfl ?_
      refine pv_bipush (v := 7) dX2_drawActs_23 (by decide) ?_
      refine pv_idiv dX2_drawActs_25 (by decide) ?_
      refine pv_bipush (v := 8) dX2_drawActs_26 (by decide) ?_
      refine pv_irem dX2_drawActs_28 (by decide) ?_
      refine pv_cs_ri (rest := []) dX2_drawActs_29 my_X2_drawnKind sl_X2_116 (k_X2_drawnKind l sh (pm_rem (x1 / (7 : Int32)) (8 : Int32)) v5.2.2) rfl ⟨rfl, rfl, Nat.le_of_ble_eq_true rfl, Nat.le_of_ble_eq_true rfl⟩ ⟨Nat.zero_le _, Nat.zero_le _⟩ (Nat.le_of_ble_eq_true rfl) rfl (fun r2 => ?_)
      refine pv_istore (ls' := [some (.ref b), none, some (.int p2), some (.int x1), some (.int v5.2.1), some (.int r2), none, none]) dX2_drawActs_32 (Nat.le_of_ble_eq_true rfl) rfl ?_
      refine pv_iload_n dX2_drawActs_34 rfl ?_
      refine pv_bipush (v := 56) dX2_drawActs_35 (by decide) ?_
      refine pv_idiv dX2_drawActs_37 (by decide) ?_
      refine pv_let (fun x3 => ?_)
      refine pv_istore (ls' := [some (.ref b), none, some (.int p2), some (.int x1), some (.int v5.2.1), some (.int r2), some (.int x3), none]) dX2_drawActs_38 (Nat.le_of_ble_eq_true rfl) rfl ?_
      refine pv_iload dX2_drawActs_40 rfl ?_
      refine pv_iconst (v := 3) dX2_drawActs_42 (by decide) ?_
      refine pv_jn (pcJ := 60) (lsJ := fun a4 => [some (.ref b), none, some (.int p2), some (.int x1), some (.int v5.2.1), some (.int r2), none, none]) (stJ := fun a4 => [.int a4]) (mJ := fun a4 => v5.2.2) (fun a4 => ?_) (fun j60 hj60 => ?_)
      · refine pv_istore (ls' := [some (.ref b), none, some (.int p2), some (.int x1), some (.int v5.2.1), some (.int r2), none, some (.int a4)]) dX2_drawActs_60 (Nat.le_of_ble_eq_true rfl) rfl ?_
        refine pv_aload_n dX2_drawActs_62 rfl ?_
        refine pv_iload dX2_drawActs_63 rfl ?_
        refine pv_iload_n dX2_drawActs_65 rfl ?_
        refine pv_bipush (v := 7) dX2_drawActs_66 (by decide) ?_
        refine pv_irem dX2_drawActs_68 (by decide) ?_
        refine pv_iload dX2_drawActs_69 rfl ?_
        refine pv_cv_ri (rest := []) dX2_drawActs_71 my_X2_whyNot vl_X2_119 (k_X2_whyNot l sh b hb r2 (pm_rem x1 (7 : Int32)) a4 v5.2.2) hb0 rfl rfl ⟨rfl, rfl, Nat.le_of_ble_eq_true rfl, Nat.le_of_ble_eq_true rfl⟩ ⟨Nat.zero_le _, Nat.zero_le _⟩ (Nat.le_of_ble_eq_true rfl) rfl (fun r5 => ?_)
        refine pv_jn (pcJ := 89) (lsJ := fun a6 => [some (.ref b), none, some (.int p2), some (.int x1), some (.int v5.2.1), none, none, none]) (stJ := fun a6 => []) (mJ := fun a6 => a6) (fun a6 => ?_) (fun j89 hj89 => ?_)
        · refine pv_iinc (v := (v5.2.1 + 1)) (ls' := [some (.ref b), none, some (.int p2), some (.int x1), some (.int (v5.2.1 + 1)), none, none, none]) dX2_drawActs_89 rfl rfl (Nat.le_of_ble_eq_true rfl) rfl ?_
          refine pv_goto (tgt := 5) dX2_drawActs_92 (by decide) ?_
          exact hT5 (x1, (v5.2.1 + 1), a6)
        · refine pv_if_ne (tgt := 89) dX2_drawActs_74 (by decide) ?_ ?_
          · refine pv_mask (ls' := [some (.ref b), none, some (.int p2), some (.int x1), some (.int v5.2.1), none, none, none]) [true, false, true, true, true, false, false, false] rfl ?_
            exact hj89 v5.2.2
          · refine pv_aload_n dX2_drawActs_77 rfl ?_
            refine pv_iload dX2_drawActs_78 rfl ?_
            refine pv_iload_n dX2_drawActs_80 rfl ?_
            refine pv_bipush (v := 7) dX2_drawActs_81 (by decide) ?_
            refine pv_irem dX2_drawActs_83 (by decide) ?_
            refine pv_iload dX2_drawActs_84 rfl ?_
            refine pv_cv_wv (rest := []) dX2_drawActs_86 my_X2_perform vl_X2_123 (k_X2_perform l sh b hb r2 (pm_rem x1 (7 : Int32)) a4 v5.2.2) hb0 rfl rfl ⟨rfl, rfl, Nat.le_of_ble_eq_true rfl, Nat.le_of_ble_eq_true rfl⟩ ⟨Nat.zero_le _, Nat.zero_le _⟩ (Nat.le_of_ble_eq_true rfl) rfl (fun m7 => ?_)
            refine pv_mask (ls' := [some (.ref b), none, some (.int p2), some (.int x1), some (.int v5.2.1), none, none, none]) [true, false, true, true, true, false, false, false] rfl ?_
            exact hj89 m7
      · refine pv_icmp_ne (tgt := 55) dX2_drawActs_43 (by decide) ?_ ?_
        · refine pv_iload dX2_drawActs_55 rfl ?_
          refine pv_bipush (v := 7) dX2_drawActs_57 (by decide) ?_
          refine pv_irem dX2_drawActs_59 (by decide) ?_
          refine pv_mask (ls' := [some (.ref b), none, some (.int p2), some (.int x1), some (.int v5.2.1), some (.int r2), none, none]) [true, false, true, true, true, true, false, false] rfl ?_
          exact hj60 (pm_rem x3 (7 : Int32))
        · refine pv_iconst (v := 1) dX2_drawActs_46 (by decide) ?_
          refine pv_iload dX2_drawActs_47 rfl ?_
          refine pv_iconst (v := 3) dX2_drawActs_49 (by decide) ?_
          refine pv_irem dX2_drawActs_50 (by decide) ?_
          refine pv_iadd dX2_drawActs_51 ?_
          refine pv_goto (tgt := 60) dX2_drawActs_52 (by decide) ?_
          refine pv_mask (ls' := [some (.ref b), none, some (.int p2), some (.int x1), some (.int v5.2.1), some (.int r2), none, none]) [true, false, true, true, true, true, false, false] rfl ?_
          exact hj60 ((1 : Int32) + (pm_rem x3 (3 : Int32)))
