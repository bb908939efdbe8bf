def f_X9_pale (p1 : Int32) (p2 : Int32) (p3 : Int32) (μ : pm_M) : Option (Int32 × pm_M) :=
  (f_X9_areTwoFarms p1 p2).bind (fun r1 => (if r1 = 0 then (some ((-1 : Int32), μ)) else (if p3 < (-1 : Int32) then (some ((-2 : Int32), μ)) else (if p3 ≤ (9 : Int32) then (pm_jn (fun (a2 : Int32) => (f_X2_setStrength 2 p1 p2 a2 μ).bind (fun m3 => (f_X2_countPales 2 m3).bind (fun r4 => (some (r4, m3))))) (fun j43 => (if 0 ≤ p3 then (j43 p3) else (j43 (-6 : Int32))))) else (some ((-2 : Int32), μ))))))
abbrev rm_X9_pale : Room := { frames := 3, cells := 0, slots := 0, locals := 64 }
set_option maxRecDepth 20000 in
set_option maxHeartbeats 2000000 in
theorem k_X9_pale (l : Launch) (p1 : Int32) (p2 : Int32) (p3 : Int32) (μ : pm_M) : pm_Ok l yX9_pale cX9_pale 4 (some .int) rm_X9_pale [.ref 0, .int p1, .int p2, .int p3] SH false SH 0 0 (fun r => (some (.int r.1), r.2)) μ (f_X9_pale p1 p2 p3 μ) := by
  refine pm_enter (own := RX9) (by decide) rfl (fun h => by cases h) (ls := [some (.ref 0), some (.int p1), some (.int p2), some (.int p3)]) rfl (fun _ => Nat.le_of_ble_eq_true rfl) ?_
  unfold f_X9_pale
  refine pv_iload_n dX9_pale_0 rfl ?_
  refine pv_iload_n dX9_pale_1 rfl ?_
  refine pv_cs_ri (rest := []) dX9_pale_2 my_X9_areTwoFarms sl_X9_57 (k_X9_areTwoFarms l SH p1 p2 μ) rfl ⟨rfl, rfl, Nat.le_of_ble_eq_true rfl, Nat.le_of_ble_eq_true rfl⟩ ⟨Nat.zero_le _, Nat.zero_le _⟩ (Nat.le_of_ble_eq_true rfl) rfl (fun r1 => ?_)
  refine pv_if_ne (tgt := 10) dX9_pale_5 (by decide) ?_ ?_
  · refine pv_iload_n dX9_pale_10 rfl ?_
    refine pv_iconst (v := (-1)) dX9_pale_11 (by decide) ?_
    refine pv_icmp_lt (tgt := 21) dX9_pale_12 (by decide) ?_ ?_
    · refine pv_bipush (v := (-2)) dX9_pale_21 (by decide) ?_
      exact pv_iret dX9_pale_23 rfl rfl rfl
    · refine pv_iload_n dX9_pale_15 rfl ?_
      refine pv_bipush (v := 9) dX9_pale_16 (by decide) ?_
      refine pv_icmp_le (tgt := 24) dX9_pale_18 (by decide) ?_ ?_
      · refine pv_aload_n dX9_pale_24 rfl ?_
        refine pv_getr dX9_pale_25 fl_X9_12 sh_0 rfl ?_
        refine pv_getr dX9_pale_28 fl_X9_61 sh_1 rfl ?_
        refine pv_iload_n dX9_pale_31 rfl ?_
        refine pv_iload_n dX9_pale_32 rfl ?_
        refine pv_iload_n dX9_pale_33 rfl ?_
        refine pv_jn (pcJ := 43) (lsJ := fun a2 => [some (.ref 0), none, none, none]) (stJ := fun a2 => [.int a2, .int p2, .int p1, .ref 2]) (mJ := fun a2 => μ) (fun a2 => ?_) (fun j43 hj43 => ?_)
        · refine pv_cv_wv (rest := []) dX9_pale_43 my_X2_setStrength vl_X9_64 (k_X2_setStrength l SH 2 is_X2_2 p1 p2 a2 μ) sh_2 rfl rfl ⟨rfl, rfl, Nat.le_of_ble_eq_true rfl, Nat.le_of_ble_eq_true rfl⟩ ⟨Nat.zero_le _, Nat.zero_le _⟩ (Nat.le_of_ble_eq_true rfl) rfl (fun m3 => ?_)
          refine pv_aload_n dX9_pale_46 rfl ?_
          refine pv_getr dX9_pale_47 fl_X9_12 sh_0 rfl ?_
          refine pv_getr dX9_pale_50 fl_X9_61 sh_1 rfl ?_
          refine pv_cv_ri (rest := []) dX9_pale_53 my_X2_countPales vl_X9_68 (k_X2_countPales l SH 2 is_X2_2 m3) sh_2 rfl rfl ⟨rfl, rfl, Nat.le_of_ble_eq_true rfl, Nat.le_of_ble_eq_true rfl⟩ ⟨Nat.zero_le _, Nat.zero_le _⟩ (Nat.le_of_ble_eq_true rfl) rfl (fun r4 => ?_)
          exact pv_iret dX9_pale_56 rfl rfl rfl
        · refine pv_if_ge (tgt := 42) dX9_pale_34 (by decide) ?_ ?_
          · refine pv_iload_n dX9_pale_42 rfl ?_
            refine pv_mask (ls' := [some (.ref 0), none, none, none]) [true, false, false, false] rfl ?_
            exact hj43 p3
          · refine pv_bipush (v := (-6)) dX9_pale_37 (by decide) ?_
            refine pv_goto (tgt := 43) dX9_pale_39 (by decide) ?_
            refine pv_mask (ls' := [some (.ref 0), none, none, none]) [true, false, false, false] rfl ?_
            exact hj43 (-6 : Int32)
      · refine pv_bipush (v := (-2)) dX9_pale_21 (by decide) ?_
        exact pv_iret dX9_pale_23 rfl rfl rfl
  · refine pv_iconst (v := (-1)) dX9_pale_8 (by decide) ?_
    exact pv_iret dX9_pale_9 rfl rfl rfl
def f_X9_road (p1 : Int32) (p2 : Int32) (p3 : Int32) (μ : pm_M) : Option (Int32 × pm_M) :=
  (f_X9_areTwoFarms p1 p2).bind (fun r1 => (if r1 = 0 then (some ((-1 : Int32), μ)) else (if p3 < 0 then (some ((-2 : Int32), μ)) else (if p3 ≤ (9 : Int32) then (f_X2_milesBetween 2 p1 p2 μ).bind (fun r2 => (f_X2_setMiles 2 p1 p2 p3 μ).bind (fun m3 => (some (r2, m3)))) else (some ((-2 : Int32), μ))))))
abbrev rm_X9_road : Room := { frames := 3, cells := 0, slots := 0, locals := 64 }
set_option maxRecDepth 20000 in
set_option maxHeartbeats 2000000 in
theorem k_X9_road (l : Launch) (p1 : Int32) (p2 : Int32) (p3 : Int32) (μ : pm_M) : pm_Ok l yX9_road cX9_road 5 (some .int) rm_X9_road [.ref 0, .int p1, .int p2, .int p3] SH false SH 0 0 (fun r => (some (.int r.1), r.2)) μ (f_X9_road p1 p2 p3 μ) := by
  refine pm_enter (own := RX9) (by decide) rfl (fun h => by cases h) (ls := [some (.ref 0), some (.int p1), some (.int p2), some (.int p3), none]) rfl (fun _ => Nat.le_of_ble_eq_true rfl) ?_
  unfold f_X9_road
  refine pv_iload_n dX9_road_0 rfl ?_
  refine pv_iload_n dX9_road_1 rfl ?_
  refine pv_cs_ri (rest := []) dX9_road_2 my_X9_areTwoFarms sl_X9_57 (k_X9_areTwoFarms l SH p1 p2 μ) rfl ⟨rfl, rfl, Nat.le_of_ble_eq_true rfl, Nat.le_of_ble_eq_true rfl⟩ ⟨Nat.zero_le _, Nat.zero_le _⟩ (Nat.le_of_ble_eq_true rfl) rfl (fun r1 => ?_)
  refine pv_if_ne (tgt := 10) dX9_road_5 (by decide) ?_ ?_
  · refine pv_iload_n dX9_road_10 rfl ?_
    refine pv_if_lt (tgt := 20) dX9_road_11 (by decide) ?_ ?_
    · refine pv_bipush (v := (-2)) dX9_road_20 (by decide) ?_
      exact pv_iret dX9_road_22 rfl rfl rfl
    · refine pv_iload_n dX9_road_14 rfl ?_
      refine pv_bipush (v := 9) dX9_road_15 (by decide) ?_
      refine pv_icmp_le (tgt := 23) dX9_road_17 (by decide) ?_ ?_
      · refine pv_aload_n dX9_road_23 rfl ?_
        refine pv_getr dX9_road_24 fl_X9_12 sh_0 rfl ?_
        refine pv_getr dX9_road_27 fl_X9_61 sh_1 rfl ?_
        refine pv_iload_n dX9_road_30 rfl ?_
        refine pv_iload_n dX9_road_31 rfl ?_
        refine pv_cv_ri (rest := []) dX9_road_32 my_X2_milesBetween vl_X9_72 (k_X2_milesBetween l SH 2 is_X2_2 p1 p2 μ) sh_2 rfl rfl ⟨rfl, rfl, Nat.le_of_ble_eq_true rfl, Nat.le_of_ble_eq_true rfl⟩ ⟨Nat.zero_le _, Nat.zero_le _⟩ (Nat.le_of_ble_eq_true rfl) rfl (fun r2 => ?_)
        refine pv_istore (ls' := [some (.ref 0), some (.int p1), some (.int p2), some (.int p3), some (.int r2)]) dX9_road_35 (Nat.le_of_ble_eq_true rfl) rfl ?_
        refine pv_aload_n dX9_road_37 rfl ?_
        refine pv_getr dX9_road_38 fl_X9_12 sh_0 rfl ?_
        refine pv_getr dX9_road_41 fl_X9_61 sh_1 rfl ?_
        refine pv_iload_n dX9_road_44 rfl ?_
        refine pv_iload_n dX9_road_45 rfl ?_
        refine pv_iload_n dX9_road_46 rfl ?_
        refine pv_cv_wv (rest := []) dX9_road_47 my_X2_setMiles vl_X9_76 (k_X2_setMiles l SH 2 is_X2_2 p1 p2 p3 μ) sh_2 rfl rfl ⟨rfl, rfl, Nat.le_of_ble_eq_true rfl, Nat.le_of_ble_eq_true rfl⟩ ⟨Nat.zero_le _, Nat.zero_le _⟩ (Nat.le_of_ble_eq_true rfl) rfl (fun m3 => ?_)
        refine pv_iload dX9_road_50 rfl ?_
        exact pv_iret dX9_road_52 rfl rfl rfl
      · refine pv_bipush (v := (-2)) dX9_road_20 (by decide) ?_
        exact pv_iret dX9_road_22 rfl rfl rfl
  · refine pv_iconst (v := (-1)) dX9_road_8 (by decide) ?_
    exact pv_iret dX9_road_9 rfl rfl rfl
def f_X9_farm (p1 : Int32) (p2 : Int32) (p3 : Int32) (μ : pm_M) : Option (Int32 × pm_M) :=
  (f_X9_isFarm p1).bind (fun r1 => (if r1 = 0 then (some ((-1 : Int32), μ)) else (f_X9_isFarm p3).bind (fun r2 => (if r2 = 0 then (some ((-1 : Int32), μ)) else (if p2 < 0 then (some ((-2 : Int32), μ)) else (if p2 ≤ (99 : Int32) then (f_X2_placeOf 2 p1 μ).bind (fun r3 => (f_X2_settle 2 p1 p2 p3 μ).bind (fun m4 => (some (r3, m4)))) else (some ((-2 : Int32), μ))))))))
abbrev rm_X9_farm : Room := { frames := 2, cells := 0, slots := 0, locals := 43 }
set_option maxRecDepth 20000 in
set_option maxHeartbeats 2000000 in
theorem k_X9_farm (l : Launch) (p1 : Int32) (p2 : Int32) (p3 : Int32) (μ : pm_M) : pm_Ok l yX9_farm cX9_farm 5 (some .int) rm_X9_farm [.ref 0, .int p1, .int p2, .int p3] SH false SH 0 0 (fun r => (some (.int r.1), r.2)) μ (f_X9_farm p1 p2 p3 μ) := by
  refine pm_enter (own := RX9) (by decide) rfl (fun h => by cases h) (ls := [some (.ref 0), some (.int p1), some (.int p2), some (.int p3), none]) rfl (fun _ => Nat.le_of_ble_eq_true rfl) ?_
  unfold f_X9_farm
  refine pv_iload_n dX9_farm_0 rfl ?_
  refine pv_cs_ri (rest := []) dX9_farm_1 my_X9_isFarm sl_X9_79 (k_X9_isFarm l SH p1 μ) rfl ⟨rfl, rfl, Nat.le_of_ble_eq_true rfl, Nat.le_of_ble_eq_true rfl⟩ ⟨Nat.zero_le _, Nat.zero_le _⟩ (Nat.le_of_ble_eq_true rfl) rfl (fun r1 => ?_)
  refine pv_if_eq (tgt := 14) dX9_farm_4 (by decide) ?_ ?_
  · refine pv_iconst (v := (-1)) dX9_farm_14 (by decide) ?_
    exact pv_iret dX9_farm_15 rfl rfl rfl
  · refine pv_iload_n dX9_farm_7 rfl ?_
    refine pv_cs_ri (rest := []) dX9_farm_8 my_X9_isFarm sl_X9_79 (k_X9_isFarm l SH p3 μ) rfl ⟨rfl, rfl, Nat.le_of_ble_eq_true rfl, Nat.le_of_ble_eq_true rfl⟩ ⟨Nat.zero_le _, Nat.zero_le _⟩ (Nat.le_of_ble_eq_true rfl) rfl (fun r2 => ?_)
    refine pv_if_ne (tgt := 16) dX9_farm_11 (by decide) ?_ ?_
    · refine pv_iload_n dX9_farm_16 rfl ?_
      refine pv_if_lt (tgt := 26) dX9_farm_17 (by decide) ?_ ?_
      · refine pv_bipush (v := (-2)) dX9_farm_26 (by decide) ?_
        exact pv_iret dX9_farm_28 rfl rfl rfl
      · refine pv_iload_n dX9_farm_20 rfl ?_
        refine pv_bipush (v := 99) dX9_farm_21 (by decide) ?_
        refine pv_icmp_le (tgt := 29) dX9_farm_23 (by decide) ?_ ?_
        · refine pv_aload_n dX9_farm_29 rfl ?_
          refine pv_getr dX9_farm_30 fl_X9_12 sh_0 rfl ?_
          refine pv_getr dX9_farm_33 fl_X9_61 sh_1 rfl ?_
          refine pv_iload_n dX9_farm_36 rfl ?_
          refine pv_cv_ri (rest := []) dX9_farm_37 my_X2_placeOf vl_X9_83 (k_X2_placeOf l SH 2 is_X2_2 p1 μ) sh_2 rfl rfl ⟨rfl, rfl, Nat.le_of_ble_eq_true rfl, Nat.le_of_ble_eq_true rfl⟩ ⟨Nat.zero_le _, Nat.zero_le _⟩ (Nat.le_of_ble_eq_true rfl) rfl (fun r3 => ?_)
          refine pv_istore (ls' := [some (.ref 0), some (.int p1), some (.int p2), some (.int p3), some (.int r3)]) dX9_farm_40 (Nat.le_of_ble_eq_true rfl) rfl ?_
          refine pv_aload_n dX9_farm_42 rfl ?_
          refine pv_getr dX9_farm_43 fl_X9_12 sh_0 rfl ?_
          refine pv_getr dX9_farm_46 fl_X9_61 sh_1 rfl ?_
          refine pv_iload_n dX9_farm_49 rfl ?_
          refine pv_iload_n dX9_farm_50 rfl ?_
          refine pv_iload_n dX9_farm_51 rfl ?_
          refine pv_cv_wv (rest := []) dX9_farm_52 my_X2_settle vl_X9_87 (k_X2_settle l SH 2 is_X2_2 p1 p2 p3 μ) sh_2 rfl rfl ⟨rfl, rfl, Nat.le_of_ble_eq_true rfl, Nat.le_of_ble_eq_true rfl⟩ ⟨Nat.zero_le _, Nat.zero_le _⟩ (Nat.le_of_ble_eq_true rfl) rfl (fun m4 => ?_)
          refine pv_iload dX9_farm_55 rfl ?_
          exact pv_iret dX9_farm_57 rfl rfl rfl
        · refine pv_bipush (v := (-2)) dX9_farm_26 (by decide) ?_
          exact pv_iret dX9_farm_28 rfl rfl rfl
    · refine pv_iconst (v := (-1)) dX9_farm_14 (by decide) ?_
      exact pv_iret dX9_farm_15 rfl rfl rfl
def f_X9_likes (p1 : Int32) (p2 : Int32) (p3 : Int32) (μ : pm_M) : Option (Int32 × pm_M) :=
  (f_X9_isOne p1 p2).bind (fun r1 => (if r1 = 0 then (some ((-1 : Int32), μ)) else (f_X1_isRow p3).bind (fun r2 => (if r2 = 0 then (some ((-2 : Int32), μ)) else (f_X1_rowOf 7 p1 p2 μ).bind (fun r3 => (f_X1_setRow 7 p1 p2 p3 μ).bind (fun m4 => (some (r3, m4))))))))
abbrev rm_X9_likes : Room := { frames := 4, cells := 0, slots := 0, locals := 90 }
set_option maxRecDepth 20000 in
set_option maxHeartbeats 2000000 in
theorem k_X9_likes (l : Launch) (p1 : Int32) (p2 : Int32) (p3 : Int32) (μ : pm_M) : pm_Ok l yX9_likes cX9_likes 5 (some .int) rm_X9_likes [.ref 0, .int p1, .int p2, .int p3] SH false SH 0 0 (fun r => (some (.int r.1), r.2)) μ (f_X9_likes p1 p2 p3 μ) := by
  refine pm_enter (own := RX9) (by decide) rfl (fun h => by cases h) (ls := [some (.ref 0), some (.int p1), some (.int p2), some (.int p3), none]) rfl (fun _ => Nat.le_of_ble_eq_true rfl) ?_
  unfold f_X9_likes
  refine pv_iload_n dX9_likes_0 rfl ?_
  refine pv_iload_n dX9_likes_1 rfl ?_
  refine pv_cs_ri (rest := []) dX9_likes_2 my_X9_isOne sl_X9_90 (k_X9_isOne l SH p1 p2 μ) rfl ⟨rfl, rfl, Nat.le_of_ble_eq_true rfl, Nat.le_of_ble_eq_true rfl⟩ ⟨Nat.zero_le _, Nat.zero_le _⟩ (Nat.le_of_ble_eq_true rfl) rfl (fun r1 => ?_)
  refine pv_if_ne (tgt := 10) dX9_likes_5 (by decide) ?_ ?_
  · refine pv_iload_n dX9_likes_10 rfl ?_
    refine pv_cs_ri (rest := []) dX9_likes_11 my_X1_isRow sl_X9_93 (k_X1_isRow l SH p3 μ) rfl ⟨rfl, rfl, Nat.le_of_ble_eq_true rfl, Nat.le_of_ble_eq_true rfl⟩ ⟨Nat.zero_le _, Nat.zero_le _⟩ (Nat.le_of_ble_eq_true rfl) rfl (fun r2 => ?_)
    refine pv_if_ne (tgt := 20) dX9_likes_14 (by decide) ?_ ?_
    · refine pv_aload_n dX9_likes_20 rfl ?_
      refine pv_getr dX9_likes_21 fl_X9_12 sh_0 rfl ?_
      refine pv_getr dX9_likes_24 fl_X9_98 sh_1 rfl ?_
      refine pv_iload_n dX9_likes_27 rfl ?_
      refine pv_iload_n dX9_likes_28 rfl ?_
      refine pv_cv_ri (rest := []) dX9_likes_29 my_X1_rowOf vl_X9_102 (k_X1_rowOf l SH 7 is_X1_7 p1 p2 μ) sh_7 rfl rfl ⟨rfl, rfl, Nat.le_of_ble_eq_true rfl, Nat.le_of_ble_eq_true rfl⟩ ⟨Nat.zero_le _, Nat.zero_le _⟩ (Nat.le_of_ble_eq_true rfl) rfl (fun r3 => ?_)
      refine pv_istore (ls' := [some (.ref 0), some (.int p1), some (.int p2), some (.int p3), some (.int r3)]) dX9_likes_32 (Nat.le_of_ble_eq_true rfl) rfl ?_
      refine pv_aload_n dX9_likes_34 rfl ?_
      refine pv_getr dX9_likes_35 fl_X9_12 sh_0 rfl ?_
      refine pv_getr dX9_likes_38 fl_X9_98 sh_1 rfl ?_
      refine pv_iload_n dX9_likes_41 rfl ?_
      refine pv_iload_n dX9_likes_42 rfl ?_
      refine pv_iload_n dX9_likes_43 rfl ?_
      refine pv_cv_wv (rest := []) dX9_likes_44 my_X1_setRow vl_X9_105 (k_X1_setRow l SH 7 is_X1_7 p1 p2 p3 μ) sh_7 rfl rfl ⟨rfl, rfl, Nat.le_of_ble_eq_true rfl, Nat.le_of_ble_eq_true rfl⟩ ⟨Nat.zero_le _, Nat.zero_le _⟩ (Nat.le_of_ble_eq_true rfl) rfl (fun m4 => ?_)
      refine pv_iload dX9_likes_47 rfl ?_
      exact pv_iret dX9_likes_49 rfl rfl rfl
    · refine pv_bipush (v := (-2)) dX9_likes_17 (by decide) ?_
      exact pv_iret dX9_likes_19 rfl rfl rfl
  · refine pv_iconst (v := (-1)) dX9_likes_8 (by decide) ?_
    exact pv_iret dX9_likes_9 rfl rfl rfl
def f_X9_say (p1 : Int32) (μ : pm_M) : Option (Int32 × pm_M) :=
  (if p1 < (33 : Int32) then (some ((-2 : Int32), μ)) else (if p1 ≤ (126 : Int32) then (f_X3_add p1 μ).bind (fun r1 => (if r1.1 = 0 then (some ((-4 : Int32), r1.2)) else (f_X3_size r1.2).bind (fun r2 => (some (r2, r1.2))))) else (some ((-2 : Int32), μ))))
abbrev rm_X9_say : Room := { frames := 1, cells := 0, slots := 0, locals := 21 }
set_option maxRecDepth 20000 in
set_option maxHeartbeats 2000000 in
theorem k_X9_say (l : Launch) (p1 : Int32) (μ : pm_M) : pm_Ok l yX9_say cX9_say 2 (some .int) rm_X9_say [.ref 0, .int p1] SH false SH 0 0 (fun r => (some (.int r.1), r.2)) μ (f_X9_say p1 μ) := by
  refine pm_enter (own := RX9) (by decide) rfl (fun h => by cases h) (ls := [some (.ref 0), some (.int p1)]) rfl (fun _ => Nat.le_of_ble_eq_true rfl) ?_
  unfold f_X9_say
  refine pv_iload_n dX9_say_0 rfl ?_
  refine pv_bipush (v := 33) dX9_say_1 (by decide) ?_
  refine pv_icmp_lt (tgt := 12) dX9_say_3 (by decide) ?_ ?_
  · refine pv_bipush (v := (-2)) dX9_say_12 (by decide) ?_
    exact pv_iret dX9_say_14 rfl rfl rfl
  · refine pv_iload_n dX9_say_6 rfl ?_
    refine pv_bipush (v := 126) dX9_say_7 (by decide) ?_
    refine pv_icmp_le (tgt := 15) dX9_say_9 (by decide) ?_ ?_
    · refine pv_aload_n dX9_say_15 rfl ?_
      refine pv_getr dX9_say_16 fl_X9_32 sh_0 rfl ?_
      refine pv_iload_n dX9_say_19 rfl ?_
      refine pv_cv_wi (rest := []) dX9_say_20 my_X3_add vl_X9_108 (k_X3_add l p1 μ) sh_42 rfl rfl ⟨rfl, rfl, Nat.le_of_ble_eq_true rfl, Nat.le_of_ble_eq_true rfl⟩ ⟨Nat.zero_le _, Nat.zero_le _⟩ (Nat.le_of_ble_eq_true rfl) rfl (fun r1 => ?_)
      refine pv_if_eq (tgt := 36) dX9_say_23 (by decide) ?_ ?_
      · refine pv_bipush (v := (-4)) dX9_say_36 (by decide) ?_
        exact pv_iret dX9_say_38 rfl rfl rfl
      · refine pv_aload_n dX9_say_26 rfl ?_
        refine pv_getr dX9_say_27 fl_X9_32 sh_0 rfl ?_
        refine pv_cv_ri (rest := []) dX9_say_30 my_X3_size vl_X9_111 (k_X3_size l r1.2) sh_42 rfl rfl ⟨rfl, rfl, Nat.le_of_ble_eq_true rfl, Nat.le_of_ble_eq_true rfl⟩ ⟨Nat.zero_le _, Nat.zero_le _⟩ (Nat.le_of_ble_eq_true rfl) rfl (fun r2 => ?_)
        refine pv_goto (tgt := 38) dX9_say_33 (by decide) ?_
        exact pv_iret dX9_say_38 rfl rfl rfl
    · refine pv_bipush (v := (-2)) dX9_say_12 (by decide) ?_
      exact pv_iret dX9_say_14 rfl rfl rfl
def f_X9_wipe (μ : pm_M) : Option (Int32 × pm_M) :=
  (f_X3_size μ).bind (fun r1 => (f_X3_clear μ).bind (fun m2 => (some (r1, m2))))
abbrev rm_X9_wipe : Room := { frames := 1, cells := 0, slots := 0, locals := 20 }
set_option maxRecDepth 20000 in
set_option maxHeartbeats 2000000 in
theorem k_X9_wipe (l : Launch) (μ : pm_M) : pm_Ok l yX9_wipe cX9_wipe 2 (some .int) rm_X9_wipe [.ref 0] SH false SH 0 0 (fun r => (some (.int r.1), r.2)) μ (f_X9_wipe μ) := by
  refine pm_enter (own := RX9) (by decide) rfl (fun h => by cases h) (ls := [some (.ref 0), none]) rfl (fun _ => Nat.le_of_ble_eq_true rfl) ?_
  unfold f_X9_wipe
  refine pv_aload_n dX9_wipe_0 rfl ?_
  refine pv_getr dX9_wipe_1 fl_X9_32 sh_0 rfl ?_
  refine pv_cv_ri (rest := []) dX9_wipe_4 my_X3_size vl_X9_111 (k_X3_size l μ) sh_42 rfl rfl ⟨rfl, rfl, Nat.le_of_ble_eq_true rfl, Nat.le_of_ble_eq_true rfl⟩ ⟨Nat.zero_le _, Nat.zero_le _⟩ (Nat.le_of_ble_eq_true rfl) rfl (fun r1 => ?_)
  refine pv_istore_n (ls' := [some (.ref 0), some (.int r1)]) dX9_wipe_7 (Nat.le_of_ble_eq_true rfl) rfl ?_
  refine pv_aload_n dX9_wipe_8 rfl ?_
  refine pv_getr dX9_wipe_9 fl_X9_32 sh_0 rfl ?_
  refine pv_cv_wv (rest := []) dX9_wipe_12 my_X3_clear vl_X9_114 (k_X3_clear l μ) sh_42 rfl rfl ⟨rfl, rfl, Nat.le_of_ble_eq_true rfl, Nat.le_of_ble_eq_true rfl⟩ ⟨Nat.zero_le _, Nat.zero_le _⟩ (Nat.le_of_ble_eq_true rfl) rfl (fun m2 => ?_)
  refine pv_iload_n dX9_wipe_15 rfl ?_
  exact pv_iret dX9_wipe_16 rfl rfl rfl
def f_X9_fault (μ : pm_M) : Option Int32 :=
  (f_X3_faultPlace μ).bind (fun r1 => (some r1))
abbrev rm_X9_fault : Room := { frames := 4, cells := 0, slots := 0, locals := 83 }
set_option maxRecDepth 20000 in
set_option maxHeartbeats 2000000 in
theorem k_X9_fault (l : Launch) (μ : pm_M) : pm_Ok l yX9_fault cX9_fault 1 (some .int) rm_X9_fault [.ref 0] SH false SH 0 0 (fun r => (some (.int r), μ)) μ (f_X9_fault μ) := by
  refine pm_enter (own := RX9) (by decide) rfl (fun h => by cases h) (ls := [some (.ref 0)]) rfl (fun _ => Nat.le_of_ble_eq_true rfl) ?_
  unfold f_X9_fault
  refine pv_aload_n dX9_fault_0 rfl ?_
  refine pv_getr dX9_fault_1 fl_X9_32 sh_0 rfl ?_
  refine pv_cv_ri (rest := []) dX9_fault_4 my_X3_faultPlace vl_X9_117 (k_X3_faultPlace l μ) sh_42 rfl rfl ⟨rfl, rfl, Nat.le_of_ble_eq_true rfl, Nat.le_of_ble_eq_true rfl⟩ ⟨Nat.zero_le _, Nat.zero_le _⟩ (Nat.le_of_ble_eq_true rfl) rfl (fun r1 => ?_)
  exact pv_iret dX9_fault_7 rfl rfl rfl
def f_X9_judge (p1 : Int32) (μ : pm_M) : Option (Int32 × pm_M) :=
  (f_X9_isZeroOrOne p1).bind (fun r1 => (if r1 = 0 then (some ((-2 : Int32), μ)) else (f_X3_faultPlace μ).bind (fun r2 => (if r2 = (-6 : Int32) then (f_X7_canBe μ).bind (fun r3 => (if p1 = 0 then (some ((r3.2 44 1), r3.2)) else (some ((r3.2 44 2), r3.2)))) else (some ((-5 : Int32), μ))))))
abbrev rm_X9_judge : Room := { frames := 7, cells := 0, slots := 0, locals := 160 }
set_option maxRecDepth 20000 in
set_option maxHeartbeats 2000000 in
theorem k_X9_judge (l : Launch) (p1 : Int32) (μ : pm_M) : pm_Ok l yX9_judge cX9_judge 2 (some .int) rm_X9_judge [.ref 0, .int p1] SH false SH 0 0 (fun r => (some (.int r.1), r.2)) μ (f_X9_judge p1 μ) := by
  refine pm_enter (own := RX9) (by decide) rfl (fun h => by cases h) (ls := [some (.ref 0), some (.int p1)]) rfl (fun _ => Nat.le_of_ble_eq_true rfl) ?_
  unfold f_X9_judge
  refine pv_iload_n dX9_judge_0 rfl ?_
  refine pv_cs_ri (rest := []) dX9_judge_1 my_X9_isZeroOrOne sl_X9_120 (k_X9_isZeroOrOne l SH p1 μ) rfl ⟨rfl, rfl, Nat.le_of_ble_eq_true rfl, Nat.le_of_ble_eq_true rfl⟩ ⟨Nat.zero_le _, Nat.zero_le _⟩ (Nat.le_of_ble_eq_true rfl) rfl (fun r1 => ?_)
  refine pv_if_ne (tgt := 10) dX9_judge_4 (by decide) ?_ ?_
  · refine pv_aload_n dX9_judge_10 rfl ?_
    refine pv_getr dX9_judge_11 fl_X9_32 sh_0 rfl ?_
    refine pv_cv_ri (rest := []) dX9_judge_14 my_X3_faultPlace vl_X9_117 (k_X3_faultPlace l μ) sh_42 rfl rfl ⟨rfl, rfl, Nat.le_of_ble_eq_true rfl, Nat.le_of_ble_eq_true rfl⟩ ⟨Nat.zero_le _, Nat.zero_le _⟩ (Nat.le_of_ble_eq_true rfl) rfl (fun r2 => ?_)
    refine pv_bipush (v := (-6)) dX9_judge_17 (by decide) ?_
    refine pv_icmp_eq (tgt := 25) dX9_judge_19 (by decide) ?_ ?_
    · refine pv_aload_n dX9_judge_25 rfl ?_
      refine pv_getr dX9_judge_26 fl_X9_39 sh_0 rfl ?_
      refine pv_aload_n dX9_judge_29 rfl ?_
      refine pv_getr dX9_judge_30 fl_X9_32 sh_0 rfl ?_
      refine pv_aload_n dX9_judge_33 rfl ?_
      refine pv_getr dX9_judge_34 fl_X9_12 sh_0 rfl ?_
      refine pv_getr dX9_judge_37 fl_X9_61 sh_1 rfl ?_
      refine pv_aload_n dX9_judge_40 rfl ?_
      refine pv_getr dX9_judge_41 fl_X9_25 sh_0 rfl ?_
      refine pv_cv_wi (rest := []) dX9_judge_44 my_X7_canBe vl_X9_123 (k_X7_canBe l μ) sh_44 rfl rfl ⟨rfl, rfl, Nat.le_of_ble_eq_true rfl, Nat.le_of_ble_eq_true rfl⟩ ⟨Nat.zero_le _, Nat.zero_le _⟩ (Nat.le_of_ble_eq_true rfl) rfl (fun r3 => ?_)
      refine pv_pop dX9_judge_47 rfl ?_
      refine pv_iload_n dX9_judge_48 rfl ?_
      refine pv_if_ne (tgt := 62) dX9_judge_49 (by decide) ?_ ?_
      · refine pv_aload_n dX9_judge_62 rfl ?_
        refine pv_getr dX9_judge_63 fl_X9_39 sh_0 rfl ?_
        refine pv_geti dX9_judge_66 fl_X9_131 sh_44 rfl ?_
        exact pv_iret dX9_judge_69 rfl rfl rfl
      · refine pv_aload_n dX9_judge_52 rfl ?_
        refine pv_getr dX9_judge_53 fl_X9_39 sh_0 rfl ?_
        refine pv_geti dX9_judge_56 fl_X9_127 sh_44 rfl ?_
        refine pv_goto (tgt := 69) dX9_judge_59 (by decide) ?_
        exact pv_iret dX9_judge_69 rfl rfl rfl
    · refine pv_bipush (v := (-5)) dX9_judge_22 (by decide) ?_
      exact pv_iret dX9_judge_24 rfl rfl rfl
  · refine pv_bipush (v := (-2)) dX9_judge_7 (by decide) ?_
    exact pv_iret dX9_judge_9 rfl rfl rfl
def f_X9_done (μ : pm_M) : Option (Int32 × pm_M) :=
  (f_X7_canBe μ).bind (fun r1 => (if r1.1 = 0 then (some ((-5 : Int32), r1.2)) else (f_X2_copyFrom 2 37 r1.2).bind (fun m2 => (f_X3_clear m2).bind (fun m3 => (some ((m3 44 0), m3))))))
abbrev rm_X9_done : Room := { frames := 7, cells := 0, slots := 0, locals := 160 }
set_option maxRecDepth 20000 in
set_option maxHeartbeats 2000000 in
theorem k_X9_done (l : Launch) (μ : pm_M) : pm_Ok l yX9_done cX9_done 1 (some .int) rm_X9_done [.ref 0] SH false SH 0 0 (fun r => (some (.int r.1), r.2)) μ (f_X9_done μ) := by
  refine pm_enter (own := RX9) (by decide) rfl (fun h => by cases h) (ls := [some (.ref 0)]) rfl (fun _ => Nat.le_of_ble_eq_true rfl) ?_
  unfold f_X9_done
  refine pv_aload_n dX9_done_0 rfl ?_
  refine pv_getr dX9_done_1 fl_X9_39 sh_0 rfl ?_
  refine pv_aload_n dX9_done_4 rfl ?_
  refine pv_getr dX9_done_5 fl_X9_32 sh_0 rfl ?_
  refine pv_aload_n dX9_done_8 rfl ?_
  refine pv_getr dX9_done_9 fl_X9_12 sh_0 rfl ?_
  refine pv_getr dX9_done_12 fl_X9_61 sh_1 rfl ?_
  refine pv_aload_n dX9_done_15 rfl ?_
  refine pv_getr dX9_done_16 fl_X9_25 sh_0 rfl ?_
  refine pv_cv_wi (rest := []) dX9_done_19 my_X7_canBe vl_X9_123 (k_X7_canBe l μ) sh_44 rfl rfl ⟨rfl, rfl, Nat.le_of_ble_eq_true rfl, Nat.le_of_ble_eq_true rfl⟩ ⟨Nat.zero_le _, Nat.zero_le _⟩ (Nat.le_of_ble_eq_true rfl) rfl (fun r1 => ?_)
  refine pv_if_ne (tgt := 28) dX9_done_22 (by decide) ?_ ?_
  · refine pv_aload_n dX9_done_28 rfl ?_
    refine pv_getr dX9_done_29 fl_X9_12 sh_0 rfl ?_
    refine pv_getr dX9_done_32 fl_X9_61 sh_1 rfl ?_
    refine pv_aload_n dX9_done_35 rfl ?_
    refine pv_getr dX9_done_36 fl_X9_25 sh_0 rfl ?_
    refine pv_cv_wv (rest := []) dX9_done_39 my_X2_copyFrom vl_X9_134 (k_X2_copyFrom l SH 2 is_X2_2 37 is_X2_37 r1.2) sh_2 rfl rfl ⟨rfl, rfl, Nat.le_of_ble_eq_true rfl, Nat.le_of_ble_eq_true rfl⟩ ⟨Nat.zero_le _, Nat.zero_le _⟩ (Nat.le_of_ble_eq_true rfl) rfl (fun m2 => ?_)
    refine pv_aload_n dX9_done_42 rfl ?_
    refine pv_getr dX9_done_43 fl_X9_32 sh_0 rfl ?_
    refine pv_cv_wv (rest := []) dX9_done_46 my_X3_clear vl_X9_114 (k_X3_clear l m2) sh_42 rfl rfl ⟨rfl, rfl, Nat.le_of_ble_eq_true rfl, Nat.le_of_ble_eq_true rfl⟩ ⟨Nat.zero_le _, Nat.zero_le _⟩ (Nat.le_of_ble_eq_true rfl) rfl (fun m3 => ?_)
    refine pv_aload_n dX9_done_49 rfl ?_
    refine pv_getr dX9_done_50 fl_X9_39 sh_0 rfl ?_
    refine pv_geti dX9_done_53 fl_X9_138 sh_44 rfl ?_
    exact pv_iret dX9_done_56 rfl rfl rfl
  · refine pv_bipush (v := (-5)) dX9_done_25 (by decide) ?_
    exact pv_iret dX9_done_27 rfl rfl rfl
def f_X9_behind (p1 : Int32) (p2 : Int32) (μ : pm_M) : Option (Int32 × pm_M) :=
  (f_X9_areTwoFarms p1 p2).bind (fun r1 => (if r1 = 0 then (some ((-1 : Int32), μ)) else (f_X7_canBe μ).bind (fun r2 => (if r2.1 = 0 then (some ((-5 : Int32), r2.2)) else (f_X2_strengthBetween 37 p1 p2 r2.2).bind (fun r3 => (some (r3, r2.2)))))))
abbrev rm_X9_behind : Room := { frames := 7, cells := 0, slots := 0, locals := 160 }
set_option maxRecDepth 20000 in
set_option maxHeartbeats 2000000 in
theorem k_X9_behind (l : Launch) (p1 : Int32) (p2 : Int32) (μ : pm_M) : pm_Ok l yX9_behind cX9_behind 3 (some .int) rm_X9_behind [.ref 0, .int p1, .int p2] SH false SH 0 0 (fun r => (some (.int r.1), r.2)) μ (f_X9_behind p1 p2 μ) := by
  refine pm_enter (own := RX9) (by decide) rfl (fun h => by cases h) (ls := [some (.ref 0), some (.int p1), some (.int p2)]) rfl (fun _ => Nat.le_of_ble_eq_true rfl) ?_
  unfold f_X9_behind
  refine pv_iload_n dX9_behind_0 rfl ?_
  refine pv_iload_n dX9_behind_1 rfl ?_
  refine pv_cs_ri (rest := []) dX9_behind_2 my_X9_areTwoFarms sl_X9_57 (k_X9_areTwoFarms l SH p1 p2 μ) rfl ⟨rfl, rfl, Nat.le_of_ble_eq_true rfl, Nat.le_of_ble_eq_true rfl⟩ ⟨Nat.zero_le _, Nat.zero_le _⟩ (Nat.le_of_ble_eq_true rfl) rfl (fun r1 => ?_)
  refine pv_if_ne (tgt := 10) dX9_behind_5 (by decide) ?_ ?_
  · refine pv_aload_n dX9_behind_10 rfl ?_
    refine pv_getr dX9_behind_11 fl_X9_39 sh_0 rfl ?_
    refine pv_aload_n dX9_behind_14 rfl ?_
    refine pv_getr dX9_behind_15 fl_X9_32 sh_0 rfl ?_
    refine pv_aload_n dX9_behind_18 rfl ?_
    refine pv_getr dX9_behind_19 fl_X9_12 sh_0 rfl ?_
    refine pv_getr dX9_behind_22 fl_X9_61 sh_1 rfl ?_
    refine pv_aload_n dX9_behind_25 rfl ?_
    refine pv_getr dX9_behind_26 fl_X9_25 sh_0 rfl ?_
    refine pv_cv_wi (rest := []) dX9_behind_29 my_X7_canBe vl_X9_123 (k_X7_canBe l μ) sh_44 rfl rfl ⟨rfl, rfl, Nat.le_of_ble_eq_true rfl, Nat.le_of_ble_eq_true rfl⟩ ⟨Nat.zero_le _, Nat.zero_le _⟩ (Nat.le_of_ble_eq_true rfl) rfl (fun r2 => ?_)
    refine pv_if_eq (tgt := 47) dX9_behind_32 (by decide) ?_ ?_
    · refine pv_bipush (v := (-5)) dX9_behind_47 (by decide) ?_
      exact pv_iret dX9_behind_49 rfl rfl rfl
    · refine pv_aload_n dX9_behind_35 rfl ?_
      refine pv_getr dX9_behind_36 fl_X9_25 sh_0 rfl ?_
      refine pv_iload_n dX9_behind_39 rfl ?_
      refine pv_iload_n dX9_behind_40 rfl ?_
      refine pv_cv_ri (rest := []) dX9_behind_41 my_X2_strengthBetween vl_X9_141 (k_X2_strengthBetween l SH 37 is_X2_37 p1 p2 r2.2) sh_37 rfl rfl ⟨rfl, rfl, Nat.le_of_ble_eq_true rfl, Nat.le_of_ble_eq_true rfl⟩ ⟨Nat.zero_le _, Nat.zero_le _⟩ (Nat.le_of_ble_eq_true rfl) rfl (fun r3 => ?_)
      refine pv_goto (tgt := 49) dX9_behind_44 (by decide) ?_
      exact pv_iret dX9_behind_49 rfl rfl rfl
  · refine pv_iconst (v := (-1)) dX9_behind_8 (by decide) ?_
    exact pv_iret dX9_behind_9 rfl rfl rfl
def f_X9_goes (p1 : Int32) (p2 : Int32) (μ : pm_M) : Option (Int32 × pm_M) :=
  (f_X9_isFarm p1).bind (fun r1 => (if r1 = 0 then (some ((-1 : Int32), μ)) else (f_X9_isZeroOrOne p2).bind (fun r2 => (if r2 = 0 then (some ((-2 : Int32), μ)) else (f_X7_canBe μ).bind (fun r3 => (if r3.1 = 0 then (some ((-5 : Int32), r3.2)) else (if p2 = 0 then (f_X2_placeOf 37 p1 r3.2).bind (fun r5 => (some (r5, r3.2))) else (f_X2_cowsOf 37 p1 r3.2).bind (fun r4 => (some (r4, r3.2))))))))))
abbrev rm_X9_goes : Room := { frames := 7, cells := 0, slots := 0, locals := 160 }
set_option maxRecDepth 20000 in
set_option maxHeartbeats 2000000 in
theorem k_X9_goes (l : Launch) (p1 : Int32) (p2 : Int32) (μ : pm_M) : pm_Ok l yX9_goes cX9_goes 3 (some .int) rm_X9_goes [.ref 0, .int p1, .int p2] SH false SH 0 0 (fun r => (some (.int r.1), r.2)) μ (f_X9_goes p1 p2 μ) := by
  refine pm_enter (own := RX9) (by decide) rfl (fun h => by cases h) (ls := [some (.ref 0), some (.int p1), some (.int p2)]) rfl (fun _ => Nat.le_of_ble_eq_true rfl) ?_
  unfold f_X9_goes
  refine pv_iload_n dX9_goes_0 rfl ?_
  refine pv_cs_ri (rest := []) dX9_goes_1 my_X9_isFarm sl_X9_79 (k_X9_isFarm l SH p1 μ) rfl ⟨rfl, rfl, Nat.le_of_ble_eq_true rfl, Nat.le_of_ble_eq_true rfl⟩ ⟨Nat.zero_le _, Nat.zero_le _⟩ (Nat.le_of_ble_eq_true rfl) rfl (fun r1 => ?_)
  refine pv_if_ne (tgt := 9) dX9_goes_4 (by decide) ?_ ?_
  · refine pv_iload_n dX9_goes_9 rfl ?_
    refine pv_cs_ri (rest := []) dX9_goes_10 my_X9_isZeroOrOne sl_X9_120 (k_X9_isZeroOrOne l SH p2 μ) rfl ⟨rfl, rfl, Nat.le_of_ble_eq_true rfl, Nat.le_of_ble_eq_true rfl⟩ ⟨Nat.zero_le _, Nat.zero_le _⟩ (Nat.le_of_ble_eq_true rfl) rfl (fun r2 => ?_)
    refine pv_if_ne (tgt := 19) dX9_goes_13 (by decide) ?_ ?_
    · refine pv_aload_n dX9_goes_19 rfl ?_
      refine pv_getr dX9_goes_20 fl_X9_39 sh_0 rfl ?_
      refine pv_aload_n dX9_goes_23 rfl ?_
      refine pv_getr dX9_goes_24 fl_X9_32 sh_0 rfl ?_
      refine pv_aload_n dX9_goes_27 rfl ?_
      refine pv_getr dX9_goes_28 fl_X9_12 sh_0 rfl ?_
      refine pv_getr dX9_goes_31 fl_X9_61 sh_1 rfl ?_
      refine pv_aload_n dX9_goes_34 rfl ?_
      refine pv_getr dX9_goes_35 fl_X9_25 sh_0 rfl ?_
      refine pv_cv_wi (rest := []) dX9_goes_38 my_X7_canBe vl_X9_123 (k_X7_canBe l μ) sh_44 rfl rfl ⟨rfl, rfl, Nat.le_of_ble_eq_true rfl, Nat.le_of_ble_eq_true rfl⟩ ⟨Nat.zero_le _, Nat.zero_le _⟩ (Nat.le_of_ble_eq_true rfl) rfl (fun r3 => ?_)
      refine pv_if_ne (tgt := 47) dX9_goes_41 (by decide) ?_ ?_
      · refine pv_iload_n dX9_goes_47 rfl ?_
        refine pv_if_ne (tgt := 62) dX9_goes_48 (by decide) ?_ ?_
        · refine pv_aload_n dX9_goes_62 rfl ?_
          refine pv_getr dX9_goes_63 fl_X9_25 sh_0 rfl ?_
          refine pv_iload_n dX9_goes_66 rfl ?_
          refine pv_cv_ri (rest := []) dX9_goes_67 my_X2_cowsOf vl_X9_144 (k_X2_cowsOf l SH 37 is_X2_37 p1 r3.2) sh_37 rfl rfl ⟨rfl, rfl, Nat.le_of_ble_eq_true rfl, Nat.le_of_ble_eq_true rfl⟩ ⟨Nat.zero_le _, Nat.zero_le _⟩ (Nat.le_of_ble_eq_true rfl) rfl (fun r4 => ?_)
          exact pv_iret dX9_goes_70 rfl rfl rfl
        · refine pv_aload_n dX9_goes_51 rfl ?_
          refine pv_getr dX9_goes_52 fl_X9_25 sh_0 rfl ?_
          refine pv_iload_n dX9_goes_55 rfl ?_
          refine pv_cv_ri (rest := []) dX9_goes_56 my_X2_placeOf vl_X9_83 (k_X2_placeOf l SH 37 is_X2_37 p1 r3.2) sh_37 rfl rfl ⟨rfl, rfl, Nat.le_of_ble_eq_true rfl, Nat.le_of_ble_eq_true rfl⟩ ⟨Nat.zero_le _, Nat.zero_le _⟩ (Nat.le_of_ble_eq_true rfl) rfl (fun r5 => ?_)
          refine pv_goto (tgt := 70) dX9_goes_59 (by decide) ?_
          exact pv_iret dX9_goes_70 rfl rfl rfl
      · refine pv_bipush (v := (-5)) dX9_goes_44 (by decide) ?_
        exact pv_iret dX9_goes_46 rfl rfl rfl
    · refine pv_bipush (v := (-2)) dX9_goes_16 (by decide) ?_
      exact pv_iret dX9_goes_18 rfl rfl rfl
  · refine pv_iconst (v := (-1)) dX9_goes_7 (by decide) ?_
    exact pv_iret dX9_goes_8 rfl rfl rfl
def f_X9_then (p1 : Int32) (μ : pm_M) : Option (Int32 × pm_M) :=
  (if p1 < 0 then (some ((-2 : Int32), μ)) else (if p1 ≤ (5 : Int32) then (f_X7_canBe μ).bind (fun r1 => (if r1.1 = 0 then (some ((-5 : Int32), r1.2)) else (pm_sw p1 [0, 1, 2, 3, 4] [(f_X2_countGaps 37 r1.2).bind (fun r2 => (some (r2, r1.2))), (some ((r1.2 44 3), r1.2)), (f_X2_awayBits 37 r1.2).bind (fun r3 => (some (r3, r1.2))), (some ((r1.2 37 4), r1.2)), (some ((r1.2 44 4), r1.2))] ((some ((r1.2 44 5), r1.2)))))) else (some ((-2 : Int32), μ))))
abbrev rm_X9_then : Room := { frames := 7, cells := 0, slots := 0, locals := 160 }
set_option maxRecDepth 20000 in
set_option maxHeartbeats 2000000 in
theorem k_X9_then (l : Launch) (p1 : Int32) (μ : pm_M) : pm_Ok l yX9_then cX9_then 2 (some .int) rm_X9_then [.ref 0, .int p1] SH false SH 0 0 (fun r => (some (.int r.1), r.2)) μ (f_X9_then p1 μ) := by
  refine pm_enter (own := RX9) (by decide) rfl (fun h => by cases h) (ls := [some (.ref 0), some (.int p1)]) rfl (fun _ => Nat.le_of_ble_eq_true rfl) ?_
  unfold f_X9_then
  refine pv_iload_n dX9_then_0 rfl ?_
  refine pv_if_lt (tgt := 9) dX9_then_1 (by decide) ?_ ?_
  · refine pv_bipush (v := (-2)) dX9_then_9 (by decide) ?_
    exact pv_iret dX9_then_11 rfl rfl rfl
  · refine pv_iload_n dX9_then_4 rfl ?_
    refine pv_iconst (v := 5) dX9_then_5 (by decide) ?_
    refine pv_icmp_le (tgt := 12) dX9_then_6 (by decide) ?_ ?_
    · refine pv_aload_n dX9_then_12 rfl ?_
      refine pv_getr dX9_then_13 fl_X9_39 sh_0 rfl ?_
      refine pv_aload_n dX9_then_16 rfl ?_
      refine pv_getr dX9_then_17 fl_X9_32 sh_0 rfl ?_
      refine pv_aload_n dX9_then_20 rfl ?_
      refine pv_getr dX9_then_21 fl_X9_12 sh_0 rfl ?_
      refine pv_getr dX9_then_24 fl_X9_61 sh_1 rfl ?_
      refine pv_aload_n dX9_then_27 rfl ?_
      refine pv_getr dX9_then_28 fl_X9_25 sh_0 rfl ?_
      refine pv_cv_wi (rest := []) dX9_then_31 my_X7_canBe vl_X9_123 (k_X7_canBe l μ) sh_44 rfl rfl ⟨rfl, rfl, Nat.le_of_ble_eq_true rfl, Nat.le_of_ble_eq_true rfl⟩ ⟨Nat.zero_le _, Nat.zero_le _⟩ (Nat.le_of_ble_eq_true rfl) rfl (fun r1 => ?_)
      refine pv_if_ne (tgt := 40) dX9_then_34 (by decide) ?_ ?_
      · refine pv_iload_n dX9_then_40 rfl ?_
        refine pv_table (kys := [0, 1, 2, 3, 4]) (ts := [76, 84, 92, 100, 108]) (tD := 116) dX9_then_41 rfl (by decide) (by decide) (by decide) (by decide) ⟨?_, ?_, ?_, ?_, ?_, trivial⟩ ?_
        · refine pv_aload_n dX9_then_76 rfl ?_
          refine pv_getr dX9_then_77 fl_X9_25 sh_0 rfl ?_
          refine pv_cv_ri (rest := []) dX9_then_80 my_X2_countGaps vl_X9_147 (k_X2_countGaps l SH 37 is_X2_37 r1.2) sh_37 rfl rfl ⟨rfl, rfl, Nat.le_of_ble_eq_true rfl, Nat.le_of_ble_eq_true rfl⟩ ⟨Nat.zero_le _, Nat.zero_le _⟩ (Nat.le_of_ble_eq_true rfl) rfl (fun r2 => ?_)
          exact pv_iret dX9_then_83 rfl rfl rfl
        · refine pv_aload_n dX9_then_84 rfl ?_
          refine pv_getr dX9_then_85 fl_X9_39 sh_0 rfl ?_
          refine pv_geti dX9_then_88 fl_X9_150 sh_44 rfl ?_
          exact pv_iret dX9_then_91 rfl rfl rfl
        · refine pv_aload_n dX9_then_92 rfl ?_
          refine pv_getr dX9_then_93 fl_X9_25 sh_0 rfl ?_
          refine pv_cv_ri (rest := []) dX9_then_96 my_X2_awayBits vl_X9_153 (k_X2_awayBits l SH 37 is_X2_37 r1.2) sh_37 rfl rfl ⟨rfl, rfl, Nat.le_of_ble_eq_true rfl, Nat.le_of_ble_eq_true rfl⟩ ⟨Nat.zero_le _, Nat.zero_le _⟩ (Nat.le_of_ble_eq_true rfl) rfl (fun r3 => ?_)
          exact pv_iret dX9_then_99 rfl rfl rfl
        · refine pv_aload_n dX9_then_100 rfl ?_
          refine pv_getr dX9_then_101 fl_X9_25 sh_0 rfl ?_
          refine pv_geti dX9_then_104 fl_X9_156 sh_37 rfl ?_
          exact pv_iret dX9_then_107 rfl rfl rfl
        · refine pv_aload_n dX9_then_108 rfl ?_
          refine pv_getr dX9_then_109 fl_X9_39 sh_0 rfl ?_
          refine pv_geti dX9_then_112 fl_X9_159 sh_44 rfl ?_
          exact pv_iret dX9_then_115 rfl rfl rfl
        · refine pv_aload_n dX9_then_116 rfl ?_
          refine pv_getr dX9_then_117 fl_X9_39 sh_0 rfl ?_
          refine pv_geti dX9_then_120 fl_X9_162 sh_44 rfl ?_
          exact pv_iret dX9_then_123 rfl rfl rfl
      · refine pv_bipush (v := (-5)) dX9_then_37 (by decide) ?_
        exact pv_iret dX9_then_39 rfl rfl rfl
    · refine pv_bipush (v := (-2)) dX9_then_9 (by decide) ?_
      exact pv_iret dX9_then_11 rfl rfl rfl
def f_X9_round (p1 : Int32) (p2 : Int32) (μ : pm_M) : Option (Int32 × pm_M) :=
  (f_X9_isFarm p1).bind (fun r1 => (if r1 = 0 then (some ((-1 : Int32), μ)) else (f_X9_isFarm p2).bind (fun r2 => (if r2 = 0 then (some ((-1 : Int32), μ)) else (f_X5_measure μ).bind (fun m3 => (f_X5_between p1 p2 m3).bind (fun r4 => (some (r4, m3))))))))
abbrev rm_X9_round : Room := { frames := 3, cells := 0, slots := 0, locals := 66 }
set_option maxRecDepth 20000 in
set_option maxHeartbeats 2000000 in
theorem k_X9_round (l : Launch) (p1 : Int32) (p2 : Int32) (μ : pm_M) : pm_Ok l yX9_round cX9_round 3 (some .int) rm_X9_round [.ref 0, .int p1, .int p2] SH false SH 0 0 (fun r => (some (.int r.1), r.2)) μ (f_X9_round p1 p2 μ) := by
  refine pm_enter (own := RX9) (by decide) rfl (fun h => by cases h) (ls := [some (.ref 0), some (.int p1), some (.int p2)]) rfl (fun _ => Nat.le_of_ble_eq_true rfl) ?_
  unfold f_X9_round
  refine pv_iload_n dX9_round_0 rfl ?_
  refine pv_cs_ri (rest := []) dX9_round_1 my_X9_isFarm sl_X9_79 (k_X9_isFarm l SH p1 μ) rfl ⟨rfl, rfl, Nat.le_of_ble_eq_true rfl, Nat.le_of_ble_eq_true rfl⟩ ⟨Nat.zero_le _, Nat.zero_le _⟩ (Nat.le_of_ble_eq_true rfl) rfl (fun r1 => ?_)
  refine pv_if_eq (tgt := 14) dX9_round_4 (by decide) ?_ ?_
  · refine pv_iconst (v := (-1)) dX9_round_14 (by decide) ?_
    exact pv_iret dX9_round_15 rfl rfl rfl
  · refine pv_iload_n dX9_round_7 rfl ?_
    refine pv_cs_ri (rest := []) dX9_round_8 my_X9_isFarm sl_X9_79 (k_X9_isFarm l SH p2 μ) rfl ⟨rfl, rfl, Nat.le_of_ble_eq_true rfl, Nat.le_of_ble_eq_true rfl⟩ ⟨Nat.zero_le _, Nat.zero_le _⟩ (Nat.le_of_ble_eq_true rfl) rfl (fun r2 => ?_)
    refine pv_if_ne (tgt := 16) dX9_round_11 (by decide) ?_ ?_
    · refine pv_aload_n dX9_round_16 rfl ?_
      refine pv_getr dX9_round_17 fl_X9_46 sh_0 rfl ?_
      refine pv_aload_n dX9_round_20 rfl ?_
      refine pv_getr dX9_round_21 fl_X9_12 sh_0 rfl ?_
      refine pv_getr dX9_round_24 fl_X9_61 sh_1 rfl ?_
      refine pv_cv_wv (rest := []) dX9_round_27 my_X5_measure vl_X9_165 (k_X5_measure l μ) sh_45 rfl rfl ⟨rfl, rfl, Nat.le_of_ble_eq_true rfl, Nat.le_of_ble_eq_true rfl⟩ ⟨Nat.zero_le _, Nat.zero_le _⟩ (Nat.le_of_ble_eq_true rfl) rfl (fun m3 => ?_)
      refine pv_aload_n dX9_round_30 rfl ?_
      refine pv_getr dX9_round_31 fl_X9_46 sh_0 rfl ?_
      refine pv_iload_n dX9_round_34 rfl ?_
      refine pv_iload_n dX9_round_35 rfl ?_
      refine pv_cv_ri (rest := []) dX9_round_36 my_X5_between vl_X9_168 (k_X5_between l p1 p2 m3) sh_45 rfl rfl ⟨rfl, rfl, Nat.le_of_ble_eq_true rfl, Nat.le_of_ble_eq_true rfl⟩ ⟨Nat.zero_le _, Nat.zero_le _⟩ (Nat.le_of_ble_eq_true rfl) rfl (fun r4 => ?_)
      exact pv_iret dX9_round_39 rfl rfl rfl
    · refine pv_iconst (v := (-1)) dX9_round_14 (by decide) ?_
      exact pv_iret dX9_round_15 rfl rfl rfl
def f_X9_mends (p1 : Int32) (μ : pm_M) : Option (Int32 × pm_M) :=
  (f_X9_isFarm p1).bind (fun r1 => (if r1 = 0 then (some ((-1 : Int32), μ)) else (f_X5_measure μ).bind (fun m2 => (f_X2_toBeMended 2 p1 m2).bind (fun r3 => (f_X5_tour p1 r3 m2).bind (fun r4 => (some (r4.1, r4.2)))))))
abbrev rm_X9_mends : Room := { frames := 3, cells := 0, slots := 0, locals := 69 }
set_option maxRecDepth 20000 in
set_option maxHeartbeats 2000000 in
theorem k_X9_mends (l : Launch) (p1 : Int32) (μ : pm_M) : pm_Ok l yX9_mends cX9_mends 2 (some .int) rm_X9_mends [.ref 0, .int p1] SH false SH 0 0 (fun r => (some (.int r.1), r.2)) μ (f_X9_mends p1 μ) := by
  refine pm_enter (own := RX9) (by decide) rfl (fun h => by cases h) (ls := [some (.ref 0), some (.int p1)]) rfl (fun _ => Nat.le_of_ble_eq_true rfl) ?_
  unfold f_X9_mends
  refine pv_iload_n dX9_mends_0 rfl ?_
  refine pv_cs_ri (rest := []) dX9_mends_1 my_X9_isFarm sl_X9_79 (k_X9_isFarm l SH p1 μ) rfl ⟨rfl, rfl, Nat.le_of_ble_eq_true rfl, Nat.le_of_ble_eq_true rfl⟩ ⟨Nat.zero_le _, Nat.zero_le _⟩ (Nat.le_of_ble_eq_true rfl) rfl (fun r1 => ?_)
  refine pv_if_ne (tgt := 9) dX9_mends_4 (by decide) ?_ ?_
  · refine pv_aload_n dX9_mends_9 rfl ?_
    refine pv_getr dX9_mends_10 fl_X9_46 sh_0 rfl ?_
    refine pv_aload_n dX9_mends_13 rfl ?_
    refine pv_getr dX9_mends_14 fl_X9_12 sh_0 rfl ?_
    refine pv_getr dX9_mends_17 fl_X9_61 sh_1 rfl ?_
    refine pv_cv_wv (rest := []) dX9_mends_20 my_X5_measure vl_X9_165 (k_X5_measure l μ) sh_45 rfl rfl ⟨rfl, rfl, Nat.le_of_ble_eq_true rfl, Nat.le_of_ble_eq_true rfl⟩ ⟨Nat.zero_le _, Nat.zero_le _⟩ (Nat.le_of_ble_eq_true rfl) rfl (fun m2 => ?_)
    refine pv_aload_n dX9_mends_23 rfl ?_
    refine pv_getr dX9_mends_24 fl_X9_46 sh_0 rfl ?_
    refine pv_iload_n dX9_mends_27 rfl ?_
    refine pv_aload_n dX9_mends_28 rfl ?_
    refine pv_getr dX9_mends_29 fl_X9_12 sh_0 rfl ?_
    refine pv_getr dX9_mends_32 fl_X9_61 sh_1 rfl ?_
    refine pv_iload_n dX9_mends_35 rfl ?_
    refine pv_cv_ri (rest := [.int p1, .ref 45]) dX9_mends_36 my_X2_toBeMended vl_X9_171 (k_X2_toBeMended l SH 2 is_X2_2 p1 m2) sh_2 rfl rfl ⟨rfl, rfl, Nat.le_of_ble_eq_true rfl, Nat.le_of_ble_eq_true rfl⟩ ⟨Nat.zero_le _, Nat.zero_le _⟩ (Nat.le_of_ble_eq_true rfl) rfl (fun r3 => ?_)
    refine pv_cv_wi (rest := []) dX9_mends_39 my_X5_tour vl_X9_174 (k_X5_tour l p1 r3 m2) sh_45 rfl rfl ⟨rfl, rfl, Nat.le_of_ble_eq_true rfl, Nat.le_of_ble_eq_true rfl⟩ ⟨Nat.zero_le _, Nat.zero_le _⟩ (Nat.le_of_ble_eq_true rfl) rfl (fun r4 => ?_)
    exact pv_iret dX9_mends_42 rfl rfl rfl
  · refine pv_iconst (v := (-1)) dX9_mends_7 (by decide) ?_
    exact pv_iret dX9_mends_8 rfl rfl rfl
def f_X9_steady (μ : pm_M) : Option Int32 :=
  (f_X1_countSteady 7 μ).bind (fun r1 => (some r1))
abbrev rm_X9_steady : Room := { frames := 6, cells := 0, slots := 0, locals := 133 }
set_option maxRecDepth 20000 in
set_option maxHeartbeats 2000000 in
theorem k_X9_steady (l : Launch) (μ : pm_M) : pm_Ok l yX9_steady cX9_steady 1 (some .int) rm_X9_steady [.ref 0] SH false SH 0 0 (fun r => (some (.int r), μ)) μ (f_X9_steady μ) := by
  refine pm_enter (own := RX9) (by decide) rfl (fun h => by cases h) (ls := [some (.ref 0)]) rfl (fun _ => Nat.le_of_ble_eq_true rfl) ?_
  unfold f_X9_steady
  refine pv_aload_n dX9_steady_0 rfl ?_
  refine pv_getr dX9_steady_1 fl_X9_12 sh_0 rfl ?_
  refine pv_getr dX9_steady_4 fl_X9_98 sh_1 rfl ?_
  refine pv_cv_ri (rest := []) dX9_steady_7 my_X1_countSteady vl_X9_177 (k_X1_countSteady l SH 7 is_X1_7 μ) sh_7 rfl rfl ⟨rfl, rfl, Nat.le_of_ble_eq_true rfl, Nat.le_of_ble_eq_true rfl⟩ ⟨Nat.zero_le _, Nat.zero_le _⟩ (Nat.le_of_ble_eq_true rfl) rfl (fun r1 => ?_)
  exact pv_iret dX9_steady_10 rfl rfl rfl
def f_X9_wed (p1 : Int32) (p2 : Int32) (p3 : Int32) (μ : pm_M) : Option Int32 :=
  (f_X9_isOne p1 p2).bind (fun r1 => (if r1 = 0 then (some (-1 : Int32)) else (f_X9_isZeroOrOne p3).bind (fun r2 => (if r2 = 0 then (some (-2 : Int32)) else (f_X1_bestSteady 7 p3 μ).bind (fun r3 => (f_X1_partnerIn r3 p1 p2).bind (fun r4 => (some r4)))))))
abbrev rm_X9_wed : Room := { frames := 6, cells := 0, slots := 0, locals := 135 }
set_option maxRecDepth 20000 in
set_option maxHeartbeats 2000000 in
theorem k_X9_wed (l : Launch) (p1 : Int32) (p2 : Int32) (p3 : Int32) (μ : pm_M) : pm_Ok l yX9_wed cX9_wed 4 (some .int) rm_X9_wed [.ref 0, .int p1, .int p2, .int p3] SH false SH 0 0 (fun r => (some (.int r), μ)) μ (f_X9_wed p1 p2 p3 μ) := by
  refine pm_enter (own := RX9) (by decide) rfl (fun h => by cases h) (ls := [some (.ref 0), some (.int p1), some (.int p2), some (.int p3)]) rfl (fun _ => Nat.le_of_ble_eq_true rfl) ?_
  unfold f_X9_wed
  refine pv_iload_n dX9_wed_0 rfl ?_
  refine pv_iload_n dX9_wed_1 rfl ?_
  refine pv_cs_ri (rest := []) dX9_wed_2 my_X9_isOne sl_X9_90 (k_X9_isOne l SH p1 p2 μ) rfl ⟨rfl, rfl, Nat.le_of_ble_eq_true rfl, Nat.le_of_ble_eq_true rfl⟩ ⟨Nat.zero_le _, Nat.zero_le _⟩ (Nat.le_of_ble_eq_true rfl) rfl (fun r1 => ?_)
  refine pv_if_ne (tgt := 10) dX9_wed_5 (by decide) ?_ ?_
  · refine pv_iload_n dX9_wed_10 rfl ?_
    refine pv_cs_ri (rest := []) dX9_wed_11 my_X9_isZeroOrOne sl_X9_120 (k_X9_isZeroOrOne l SH p3 μ) rfl ⟨rfl, rfl, Nat.le_of_ble_eq_true rfl, Nat.le_of_ble_eq_true rfl⟩ ⟨Nat.zero_le _, Nat.zero_le _⟩ (Nat.le_of_ble_eq_true rfl) rfl (fun r2 => ?_)
    refine pv_if_ne (tgt := 20) dX9_wed_14 (by decide) ?_ ?_
    · refine pv_aload_n dX9_wed_20 rfl ?_
      refine pv_getr dX9_wed_21 fl_X9_12 sh_0 rfl ?_
      refine pv_getr dX9_wed_24 fl_X9_98 sh_1 rfl ?_
      refine pv_iload_n dX9_wed_27 rfl ?_
      refine pv_cv_ri (rest := []) dX9_wed_28 my_X1_bestSteady vl_X9_180 (k_X1_bestSteady l SH 7 is_X1_7 p3 μ) sh_7 rfl rfl ⟨rfl, rfl, Nat.le_of_ble_eq_true rfl, Nat.le_of_ble_eq_true rfl⟩ ⟨Nat.zero_le _, Nat.zero_le _⟩ (Nat.le_of_ble_eq_true rfl) rfl (fun r3 => ?_)
      refine pv_iload_n dX9_wed_31 rfl ?_
      refine pv_iload_n dX9_wed_32 rfl ?_
      refine pv_cs_ri (rest := []) dX9_wed_33 my_X1_partnerIn sl_X9_183 (k_X1_partnerIn l SH r3 p1 p2 μ) rfl ⟨rfl, rfl, Nat.le_of_ble_eq_true rfl, Nat.le_of_ble_eq_true rfl⟩ ⟨Nat.zero_le _, Nat.zero_le _⟩ (Nat.le_of_ble_eq_true rfl) rfl (fun r4 => ?_)
      exact pv_iret dX9_wed_36 rfl rfl rfl
    · refine pv_bipush (v := (-2)) dX9_wed_17 (by decide) ?_
      exact pv_iret dX9_wed_19 rfl rfl rfl
  · refine pv_iconst (v := (-1)) dX9_wed_8 (by decide) ?_
    exact pv_iret dX9_wed_9 rfl rfl rfl
def f_X9_seen (p1 : Int32) (p2 : Int32) (p3 : Int32) (μ : pm_M) : Option (Int32 × pm_M) :=
  (if p1 < 0 then (some ((-2 : Int32), μ)) else (if (5 : Int32) < p1 then (some ((-2 : Int32), μ)) else (if p2 < 0 then (some ((-2 : Int32), μ)) else (if p2 < (100 : Int32) then (f_X6_add 10 p1 p2 p3 μ).bind (fun r1 => (if r1.1 = 0 then (some ((-4 : Int32), r1.2)) else (some ((r1.2 10 3), r1.2)))) else (some ((-2 : Int32), μ))))))
abbrev rm_X9_seen : Room := { frames := 3, cells := 0, slots := 0, locals := 68 }
set_option maxRecDepth 20000 in
set_option maxHeartbeats 2000000 in
theorem k_X9_seen (l : Launch) (p1 : Int32) (p2 : Int32) (p3 : Int32) (μ : pm_M) : pm_Ok l yX9_seen cX9_seen 4 (some .int) rm_X9_seen [.ref 0, .int p1, .int p2, .int p3] SH false SH 0 0 (fun r => (some (.int r.1), r.2)) μ (f_X9_seen p1 p2 p3 μ) := by
  refine pm_enter (own := RX9) (by decide) rfl (fun h => by cases h) (ls := [some (.ref 0), some (.int p1), some (.int p2), some (.int p3)]) rfl (fun _ => Nat.le_of_ble_eq_true rfl) ?_
  unfold f_X9_seen
  refine pv_iload_n dX9_seen_0 rfl ?_
  refine pv_if_lt (tgt := 19) dX9_seen_1 (by decide) ?_ ?_
  · refine pv_bipush (v := (-2)) dX9_seen_19 (by decide) ?_
    exact pv_iret dX9_seen_21 rfl rfl rfl
  · refine pv_iload_n dX9_seen_4 rfl ?_
    refine pv_iconst (v := 5) dX9_seen_5 (by decide) ?_
    refine pv_icmp_gt (tgt := 19) dX9_seen_6 (by decide) ?_ ?_
    · refine pv_bipush (v := (-2)) dX9_seen_19 (by decide) ?_
      exact pv_iret dX9_seen_21 rfl rfl rfl
    · refine pv_iload_n dX9_seen_9 rfl ?_
      refine pv_if_lt (tgt := 19) dX9_seen_10 (by decide) ?_ ?_
      · refine pv_bipush (v := (-2)) dX9_seen_19 (by decide) ?_
        exact pv_iret dX9_seen_21 rfl rfl rfl
      · refine pv_iload_n dX9_seen_13 rfl ?_
        refine pv_bipush (v := 100) dX9_seen_14 (by decide) ?_
        refine pv_icmp_lt (tgt := 22) dX9_seen_16 (by decide) ?_ ?_
        · refine pv_aload_n dX9_seen_22 rfl ?_
          refine pv_getr dX9_seen_23 fl_X9_12 sh_0 rfl ?_
          refine pv_getr dX9_seen_26 fl_X9_187 sh_1 rfl ?_
          refine pv_iload_n dX9_seen_29 rfl ?_
          refine pv_iload_n dX9_seen_30 rfl ?_
          refine pv_iload_n dX9_seen_31 rfl ?_
          refine pv_cv_wi (rest := []) dX9_seen_32 my_X6_add vl_X9_191 (k_X6_add l SH 10 is_X6_10 p1 p2 p3 μ) sh_10 rfl rfl ⟨rfl, rfl, Nat.le_of_ble_eq_true rfl, Nat.le_of_ble_eq_true rfl⟩ ⟨Nat.zero_le _, Nat.zero_le _⟩ (Nat.le_of_ble_eq_true rfl) rfl (fun r1 => ?_)
          refine pv_if_eq (tgt := 51) dX9_seen_35 (by decide) ?_ ?_
          · refine pv_bipush (v := (-4)) dX9_seen_51 (by decide) ?_
            exact pv_iret dX9_seen_53 rfl rfl rfl
          · refine pv_aload_n dX9_seen_38 rfl ?_
            refine pv_getr dX9_seen_39 fl_X9_12 sh_0 rfl ?_
            refine pv_getr dX9_seen_42 fl_X9_187 sh_1 rfl ?_
            refine pv_geti dX9_seen_45 fl_X9_196 sh_10 rfl ?_
            refine pv_goto (tgt := 53) dX9_seen_48 (by decide) ?_
            exact pv_iret dX9_seen_53 rfl rfl rfl
        · refine pv_bipush (v := (-2)) dX9_seen_19 (by decide) ?_
          exact pv_iret dX9_seen_21 rfl rfl rfl
def f_X9_forget (μ : pm_M) : Option (Int32 × pm_M) :=
  pm_let (μ 10 3) (fun x1 => (f_X6_clear 10 μ).bind (fun m2 => (some (x1, m2))))
abbrev rm_X9_forget : Room := { frames := 1, cells := 0, slots := 0, locals := 21 }
set_option maxRecDepth 20000 in
set_option maxHeartbeats 2000000 in
theorem k_X9_forget (l : Launch) (μ : pm_M) : pm_Ok l yX9_forget cX9_forget 2 (some .int) rm_X9_forget [.ref 0] SH false SH 0 0 (fun r => (some (.int r.1), r.2)) μ (f_X9_forget μ) := by
  refine pm_enter (own := RX9) (by decide) rfl (fun h => by cases h) (ls := [some (.ref 0), none]) rfl (fun _ => Nat.le_of_ble_eq_true rfl) ?_
  unfold f_X9_forget
  refine pv_aload_n dX9_forget_0 rfl ?_
  refine pv_getr dX9_forget_1 fl_X9_12 sh_0 rfl ?_
  refine pv_getr dX9_forget_4 fl_X9_187 sh_1 rfl ?_
  refine pv_geti dX9_forget_7 fl_X9_196 sh_10 rfl ?_
  refine pv_let (fun x1 => ?_)
  refine pv_istore_n (ls' := [some (.ref 0), some (.int x1)]) dX9_forget_10 (Nat.le_of_ble_eq_true rfl) rfl ?_
  refine pv_aload_n dX9_forget_11 rfl ?_
  refine pv_getr dX9_forget_12 fl_X9_12 sh_0 rfl ?_
  refine pv_getr dX9_forget_15 fl_X9_187 sh_1 rfl ?_
  refine pv_cv_wv (rest := []) dX9_forget_18 my_X6_clear vl_X9_199 (k_X6_clear l SH 10 is_X6_10 μ) sh_10 rfl rfl ⟨rfl, rfl, Nat.le_of_ble_eq_true rfl, Nat.le_of_ble_eq_true rfl⟩ ⟨Nat.zero_le _, Nat.zero_le _⟩ (Nat.le_of_ble_eq_true rfl) rfl (fun m2 => ?_)
  refine pv_iload_n dX9_forget_21 rfl ?_
  exact pv_iret dX9_forget_22 rfl rfl rfl
def f_X9_posts (p1 : Int32) (μ : pm_M) : Option Int32 :=
  (if p1 = (-1 : Int32) then (some (μ 10 2)) else (f_X6_caseAt 10 p1 μ).bind (fun r1 => (some r1)))
abbrev rm_X9_posts : Room := { frames := 1, cells := 0, slots := 0, locals := 21 }
set_option maxRecDepth 20000 in
set_option maxHeartbeats 2000000 in
theorem k_X9_posts (l : Launch) (p1 : Int32) (μ : pm_M) : pm_Ok l yX9_posts cX9_posts 2 (some .int) rm_X9_posts [.ref 0, .int p1] SH false SH 0 0 (fun r => (some (.int r), μ)) μ (f_X9_posts p1 μ) := by
  refine pm_enter (own := RX9) (by decide) rfl (fun h => by cases h) (ls := [some (.ref 0), some (.int p1)]) rfl (fun _ => Nat.le_of_ble_eq_true rfl) ?_
  unfold f_X9_posts
  refine pv_iload_n dX9_posts_0 rfl ?_
  refine pv_iconst (v := (-1)) dX9_posts_1 (by decide) ?_
  refine pv_icmp_ne (tgt := 18) dX9_posts_2 (by decide) ?_ ?_
  · refine pv_aload_n dX9_posts_18 rfl ?_
    refine pv_getr dX9_posts_19 fl_X9_12 sh_0 rfl ?_
    refine pv_getr dX9_posts_22 fl_X9_187 sh_1 rfl ?_
    refine pv_iload_n dX9_posts_25 rfl ?_
    refine pv_cv_ri (rest := []) dX9_posts_26 my_X6_caseAt vl_X9_203 (k_X6_caseAt l SH 10 is_X6_10 p1 μ) sh_10 rfl rfl ⟨rfl, rfl, Nat.le_of_ble_eq_true rfl, Nat.le_of_ble_eq_true rfl⟩ ⟨Nat.zero_le _, Nat.zero_le _⟩ (Nat.le_of_ble_eq_true rfl) rfl (fun r1 => ?_)
    exact pv_iret dX9_posts_29 rfl rfl rfl
  · refine pv_aload_n dX9_posts_5 rfl ?_
    refine pv_getr dX9_posts_6 fl_X9_12 sh_0 rfl ?_
    refine pv_getr dX9_posts_9 fl_X9_187 sh_1 rfl ?_
    refine pv_geti dX9_posts_12 fl_X9_200 sh_10 rfl ?_
    refine pv_goto (tgt := 29) dX9_posts_15 (by decide) ?_
    exact pv_iret dX9_posts_29 rfl rfl rfl
def f_X9_ask (p1 : Int32) (μ : pm_M) : Option (Int32 × pm_M) :=
  (f_X9_isZeroOrOne p1).bind (fun r1 => (if r1 = 0 then (some ((-2 : Int32), μ)) else (f_X6_bestQuestion 10 μ).bind (fun r2 => (if r2.1 = (-6 : Int32) then (some (r2.1, r2.2)) else (if p1 = 0 then (some (r2.1, r2.2)) else (f_X6_leftAtMost 10 r2.1 r2.2).bind (fun r3 => (some (r3, r2.2))))))))
abbrev rm_X9_ask : Room := { frames := 3, cells := 0, slots := 0, locals := 73 }
set_option maxRecDepth 20000 in
set_option maxHeartbeats 2000000 in
theorem k_X9_ask (l : Launch) (p1 : Int32) (μ : pm_M) : pm_Ok l yX9_ask cX9_ask 3 (some .int) rm_X9_ask [.ref 0, .int p1] SH false SH 0 0 (fun r => (some (.int r.1), r.2)) μ (f_X9_ask p1 μ) := by
  refine pm_enter (own := RX9) (by decide) rfl (fun h => by cases h) (ls := [some (.ref 0), some (.int p1), none]) rfl (fun _ => Nat.le_of_ble_eq_true rfl) ?_
  unfold f_X9_ask
  refine pv_iload_n dX9_ask_0 rfl ?_
  refine pv_cs_ri (rest := []) dX9_ask_1 my_X9_isZeroOrOne sl_X9_120 (k_X9_isZeroOrOne l SH p1 μ) rfl ⟨rfl, rfl, Nat.le_of_ble_eq_true rfl, Nat.le_of_ble_eq_true rfl⟩ ⟨Nat.zero_le _, Nat.zero_le _⟩ (Nat.le_of_ble_eq_true rfl) rfl (fun r1 => ?_)
  refine pv_if_ne (tgt := 10) dX9_ask_4 (by decide) ?_ ?_
  · refine pv_aload_n dX9_ask_10 rfl ?_
    refine pv_getr dX9_ask_11 fl_X9_12 sh_0 rfl ?_
    refine pv_getr dX9_ask_14 fl_X9_187 sh_1 rfl ?_
    refine pv_cv_wi (rest := []) dX9_ask_17 my_X6_bestQuestion vl_X9_206 (k_X6_bestQuestion l SH 10 is_X6_10 μ) sh_10 rfl rfl ⟨rfl, rfl, Nat.le_of_ble_eq_true rfl, Nat.le_of_ble_eq_true rfl⟩ ⟨Nat.zero_le _, Nat.zero_le _⟩ (Nat.le_of_ble_eq_true rfl) rfl (fun r2 => ?_)
    refine pv_istore_n (ls' := [some (.ref 0), some (.int p1), some (.int r2.1)]) dX9_ask_20 (Nat.le_of_ble_eq_true rfl) rfl ?_
    refine pv_iload_n dX9_ask_21 rfl ?_
    refine pv_bipush (v := (-6)) dX9_ask_22 (by decide) ?_
    refine pv_icmp_eq (tgt := 31) dX9_ask_24 (by decide) ?_ ?_
    · refine pv_iload_n dX9_ask_31 rfl ?_
      exact pv_iret dX9_ask_32 rfl rfl rfl
    · refine pv_iload_n dX9_ask_27 rfl ?_
      refine pv_if_ne (tgt := 33) dX9_ask_28 (by decide) ?_ ?_
      · refine pv_aload_n dX9_ask_33 rfl ?_
        refine pv_getr dX9_ask_34 fl_X9_12 sh_0 rfl ?_
        refine pv_getr dX9_ask_37 fl_X9_187 sh_1 rfl ?_
        refine pv_iload_n dX9_ask_40 rfl ?_
        refine pv_cv_ri (rest := []) dX9_ask_41 my_X6_leftAtMost vl_X9_209 (k_X6_leftAtMost l SH 10 is_X6_10 r2.1 r2.2) sh_10 rfl rfl ⟨rfl, rfl, Nat.le_of_ble_eq_true rfl, Nat.le_of_ble_eq_true rfl⟩ ⟨Nat.zero_le _, Nat.zero_le _⟩ (Nat.le_of_ble_eq_true rfl) rfl (fun r3 => ?_)
        exact pv_iret dX9_ask_44 rfl rfl rfl
      · refine pv_iload_n dX9_ask_31 rfl ?_
        exact pv_iret dX9_ask_32 rfl rfl rfl
  · refine pv_bipush (v := (-2)) dX9_ask_7 (by decide) ?_
    exact pv_iret dX9_ask_9 rfl rfl rfl
def f_X9_heaps (p1 : Int32) (p2 : Int32) (μ : pm_M) : Option Int32 :=
  (if p1 < 0 then (some (-2 : Int32)) else (if (60 : Int32) < p1 then (some (-2 : Int32)) else (f_X9_isZeroOrOne p2).bind (fun r1 => (if r1 = 0 then (some (-2 : Int32)) else (f_X4_winningLess p1 μ).bind (fun r2 => (if p2 = (1 : Int32) then (some r2) else (if r2 = (-6 : Int32) then (some (0 : Int32)) else (some (1 : Int32)))))))))
abbrev rm_X9_heaps : Room := { frames := 1, cells := 0, slots := 0, locals := 22 }
set_option maxRecDepth 20000 in
set_option maxHeartbeats 2000000 in
theorem k_X9_heaps (l : Launch) (p1 : Int32) (p2 : Int32) (μ : pm_M) : pm_Ok l yX9_heaps cX9_heaps 4 (some .int) rm_X9_heaps [.ref 0, .int p1, .int p2] SH false SH 0 0 (fun r => (some (.int r), μ)) μ (f_X9_heaps p1 p2 μ) := by
  refine pm_enter (own := RX9) (by decide) rfl (fun h => by cases h) (ls := [some (.ref 0), some (.int p1), some (.int p2), none]) rfl (fun _ => Nat.le_of_ble_eq_true rfl) ?_
  unfold f_X9_heaps
  refine pv_iload_n dX9_heaps_0 rfl ?_
  refine pv_if_lt (tgt := 17) dX9_heaps_1 (by decide) ?_ ?_
  · refine pv_bipush (v := (-2)) dX9_heaps_17 (by decide) ?_
    exact pv_iret dX9_heaps_19 rfl rfl rfl
  · refine pv_iload_n dX9_heaps_4 rfl ?_
    refine pv_bipush (v := 60) dX9_heaps_5 (by decide) ?_
    refine pv_icmp_gt (tgt := 17) dX9_heaps_7 (by decide) ?_ ?_
    · refine pv_bipush (v := (-2)) dX9_heaps_17 (by decide) ?_
      exact pv_iret dX9_heaps_19 rfl rfl rfl
    · refine pv_iload_n dX9_heaps_10 rfl ?_
      refine pv_cs_ri (rest := []) dX9_heaps_11 my_X9_isZeroOrOne sl_X9_120 (k_X9_isZeroOrOne l SH p2 μ) rfl ⟨rfl, rfl, Nat.le_of_ble_eq_true rfl, Nat.le_of_ble_eq_true rfl⟩ ⟨Nat.zero_le _, Nat.zero_le _⟩ (Nat.le_of_ble_eq_true rfl) rfl (fun r1 => ?_)
      refine pv_if_ne (tgt := 20) dX9_heaps_14 (by decide) ?_ ?_
      · refine pv_aload_n dX9_heaps_20 rfl ?_
        refine pv_getr dX9_heaps_21 fl_X9_53 sh_0 rfl ?_
        refine pv_iload_n dX9_heaps_24 rfl ?_
        refine pv_cv_ri (rest := []) dX9_heaps_25 my_X4_winningLess vl_X9_212 (k_X4_winningLess l p1 μ) sh_48 rfl rfl ⟨rfl, rfl, Nat.le_of_ble_eq_true rfl, Nat.le_of_ble_eq_true rfl⟩ ⟨Nat.zero_le _, Nat.zero_le _⟩ (Nat.le_of_ble_eq_true rfl) rfl (fun r2 => ?_)
        refine pv_istore_n (ls' := [some (.ref 0), some (.int p1), some (.int p2), some (.int r2)]) dX9_heaps_28 (Nat.le_of_ble_eq_true rfl) rfl ?_
        refine pv_iload_n dX9_heaps_29 rfl ?_
        refine pv_iconst (v := 1) dX9_heaps_30 (by decide) ?_
        refine pv_icmp_ne (tgt := 36) dX9_heaps_31 (by decide) ?_ ?_
        · refine pv_iload_n dX9_heaps_36 rfl ?_
          refine pv_bipush (v := (-6)) dX9_heaps_37 (by decide) ?_
          refine pv_icmp_ne (tgt := 46) dX9_heaps_39 (by decide) ?_ ?_
          · refine pv_iconst (v := 1) dX9_heaps_46 (by decide) ?_
            exact pv_iret dX9_heaps_47 rfl rfl rfl
          · refine pv_iconst (v := 0) dX9_heaps_42 (by decide) ?_
            refine pv_goto (tgt := 47) dX9_heaps_43 (by decide) ?_
            exact pv_iret dX9_heaps_47 rfl rfl rfl
        · refine pv_iload_n dX9_heaps_34 rfl ?_
          exact pv_iret dX9_heaps_35 rfl rfl rfl
      · refine pv_bipush (v := (-2)) dX9_heaps_17 (by decide) ?_
        exact pv_iret dX9_heaps_19 rfl rfl rfl
def f_X9_gust (p1 : Int32) (p2 : Int32) (p3 : Int32) (p4 : Int32) (p5 : Int32) : Option Int64 :=
  (pm_jn (fun (a1 : Int32) => (if a1 = 0 then (some (-1000000000000000002 : Int64)) else (f_X9_isZeroOrOne p4).bind (fun r2 => (if r2 = 0 then (some (-1000000000000000002 : Int64)) else (f_X9_isZeroOrOne p5).bind (fun r3 => (if r3 = 0 then (some (-1000000000000000002 : Int64)) else (pm_jn (fun (a4 : Int64) => (f_X0_power p2 p1).bind (fun r5 => (f_X0_partInLowestTerms a4 r5 p5).bind (fun r6 => (some r6)))) (fun j82 => (if p4 = 0 then (f_X0_waysOfJust p1 p3).bind (fun r8 => (j82 r8)) else (f_X0_sumOfStrongest p1 p2).bind (fun r7 => (j82 r7))))))))))) (fun j37 => (pm_jn (fun (a9 : Unit) => (j37 (0 : Int32))) (fun j36 => (if p1 < (1 : Int32) then (j36 ()) else (if (12 : Int32) < p1 then (j36 ()) else (if p2 < (1 : Int32) then (j36 ()) else (if (9 : Int32) < p2 then (j36 ()) else (if p3 < (1 : Int32) then (j36 ()) else (if p2 < p3 then (j36 ()) else (j37 (1 : Int32))))))))))))
abbrev rm_X9_gust : Room := { frames := 3, cells := 0, slots := 0, locals := 69 }
set_option maxRecDepth 20000 in
set_option maxHeartbeats 2000000 in
theorem k_X9_gust (l : Launch) (p1 : Int32) (p2 : Int32) (p3 : Int32) (p4 : Int32) (p5 : Int32) (μ : pm_M) : pm_Ok l yX9_gust cX9_gust 9 (some .long) rm_X9_gust [.ref 0, .int p1, .int p2, .int p3, .int p4, .int p5] SH false SH 0 0 (fun r => (some (.long r), μ)) μ (f_X9_gust p1 p2 p3 p4 p5) := by
  refine pm_enter (own := RX9) (by decide) rfl (fun h => by cases h) (ls := [some (.ref 0), some (.int p1), some (.int p2), some (.int p3), some (.int p4), some (.int p5), none, none, none]) rfl (fun _ => Nat.le_of_ble_eq_true rfl) ?_
  unfold f_X9_gust
  refine pv_iload_n dX9_gust_0 rfl ?_
  refine pv_iconst (v := 1) dX9_gust_1 (by decide) ?_
  refine pv_jn (pcJ := 37) (lsJ := fun a1 => [none, some (.int p1), some (.int p2), some (.int p3), some (.int p4), some (.int p5), none, none, none]) (stJ := fun a1 => [.int a1]) (mJ := fun a1 => μ) (fun a1 => ?_) (fun j37 hj37 => ?_)
  · refine pv_istore (ls' := [none, some (.int p1), some (.int p2), some (.int p3), some (.int p4), some (.int p5), some (.int a1), none, none]) dX9_gust_37 (Nat.le_of_ble_eq_true rfl) rfl ?_
    refine pv_iload dX9_gust_39 rfl ?_
    refine pv_if_eq (tgt := 60) dX9_gust_41 (by decide) ?_ ?_
    · refine pv_ldc2 dX9_gust_60 kc_X9_215 ?_
      exact pv_lret dX9_gust_63 rfl rfl
    · refine pv_iload dX9_gust_44 rfl ?_
      refine pv_cs_ri (rest := []) dX9_gust_46 my_X9_isZeroOrOne sl_X9_120 (k_X9_isZeroOrOne l SH p4 μ) rfl ⟨rfl, rfl, Nat.le_of_ble_eq_true rfl, Nat.le_of_ble_eq_true rfl⟩ ⟨Nat.zero_le _, Nat.zero_le _⟩ (Nat.le_of_ble_eq_true rfl) rfl (fun r2 => ?_)
      refine pv_if_eq (tgt := 60) dX9_gust_49 (by decide) ?_ ?_
      · refine pv_ldc2 dX9_gust_60 kc_X9_215 ?_
        exact pv_lret dX9_gust_63 rfl rfl
      · refine pv_iload dX9_gust_52 rfl ?_
        refine pv_cs_ri (rest := []) dX9_gust_54 my_X9_isZeroOrOne sl_X9_120 (k_X9_isZeroOrOne l SH p5 μ) rfl ⟨rfl, rfl, Nat.le_of_ble_eq_true rfl, Nat.le_of_ble_eq_true rfl⟩ ⟨Nat.zero_le _, Nat.zero_le _⟩ (Nat.le_of_ble_eq_true rfl) rfl (fun r3 => ?_)
        refine pv_if_ne (tgt := 64) dX9_gust_57 (by decide) ?_ ?_
        · refine pv_iload dX9_gust_64 rfl ?_
          refine pv_jn (pcJ := 82) (lsJ := fun a4 => [none, some (.int p1), some (.int p2), none, none, some (.int p5), none, none, none]) (stJ := fun a4 => [.long a4]) (mJ := fun a4 => μ) (fun a4 => ?_) (fun j82 hj82 => ?_)
          · refine pv_lstore (ls' := [none, some (.int p1), some (.int p2), none, none, some (.int p5), none, some (.long a4), none]) dX9_gust_82 (Nat.le_of_ble_eq_true rfl) rfl ?_
            refine pv_lload dX9_gust_84 rfl ?_
            refine pv_iload_n dX9_gust_86 rfl ?_
            refine pv_iload_n dX9_gust_87 rfl ?_
            refine pv_cs_rl (rest := [.long a4]) dX9_gust_88 my_X0_power sl_X9_226 (k_X0_power l SH p2 p1 μ) rfl ⟨rfl, rfl, Nat.le_of_ble_eq_true rfl, Nat.le_of_ble_eq_true rfl⟩ ⟨Nat.zero_le _, Nat.zero_le _⟩ (Nat.le_of_ble_eq_true rfl) rfl (fun r5 => ?_)
            refine pv_iload dX9_gust_91 rfl ?_
            refine pv_cs_rl (rest := []) dX9_gust_93 my_X0_partInLowestTerms sl_X9_229 (k_X0_partInLowestTerms l SH a4 r5 p5 μ) rfl ⟨rfl, rfl, Nat.le_of_ble_eq_true rfl, Nat.le_of_ble_eq_true rfl⟩ ⟨Nat.zero_le _, Nat.zero_le _⟩ (Nat.le_of_ble_eq_true rfl) rfl (fun r6 => ?_)
            exact pv_lret dX9_gust_96 rfl rfl
          · refine pv_if_ne (tgt := 77) dX9_gust_66 (by decide) ?_ ?_
            · refine pv_iload_n dX9_gust_77 rfl ?_
              refine pv_iload_n dX9_gust_78 rfl ?_
              refine pv_cs_rl (rest := []) dX9_gust_79 my_X0_sumOfStrongest sl_X9_223 (k_X0_sumOfStrongest l SH p1 p2 μ) rfl ⟨rfl, rfl, Nat.le_of_ble_eq_true rfl, Nat.le_of_ble_eq_true rfl⟩ ⟨Nat.zero_le _, Nat.zero_le _⟩ (Nat.le_of_ble_eq_true rfl) rfl (fun r7 => ?_)
              refine pv_mask (ls' := [none, some (.int p1), some (.int p2), none, none, some (.int p5), none, none, none]) [false, true, true, false, false, true, false, false, false] rfl ?_
              exact hj82 r7
            · refine pv_iload_n dX9_gust_69 rfl ?_
              refine pv_iload_n dX9_gust_70 rfl ?_
              refine pv_cs_rl (rest := []) dX9_gust_71 my_X0_waysOfJust sl_X9_217 (k_X0_waysOfJust l SH p1 p3 μ) rfl ⟨rfl, rfl, Nat.le_of_ble_eq_true rfl, Nat.le_of_ble_eq_true rfl⟩ ⟨Nat.zero_le _, Nat.zero_le _⟩ (Nat.le_of_ble_eq_true rfl) rfl (fun r8 => ?_)
              refine pv_goto (tgt := 82) dX9_gust_74 (by decide) ?_
              refine pv_mask (ls' := [none, some (.int p1), some (.int p2), none, none, some (.int p5), none, none, none]) [false, true, true, false, false, true, false, false, false] rfl ?_
              exact hj82 r8
        · refine pv_ldc2 dX9_gust_60 kc_X9_215 ?_
          exact pv_lret dX9_gust_63 rfl rfl
  · refine pv_jn (pcJ := 36) (lsJ := fun a9 => [none, some (.int p1), some (.int p2), some (.int p3), some (.int p4), some (.int p5), none, none, none]) (stJ := fun a9 => []) (mJ := fun a9 => μ) (fun a9 => ?_) (fun j36 hj36 => ?_)
    · refine pv_iconst (v := 0) dX9_gust_36 (by decide) ?_
      exact hj37 (0 : Int32)
    · refine pv_icmp_lt (tgt := 36) dX9_gust_2 (by decide) ?_ ?_
      · refine pv_mask (ls' := [none, some (.int p1), some (.int p2), some (.int p3), some (.int p4), some (.int p5), none, none, none]) [false, true, true, true, true, true, false, false, false] rfl ?_
        exact hj36 ()
      · refine pv_iload_n dX9_gust_5 rfl ?_
        refine pv_bipush (v := 12) dX9_gust_6 (by decide) ?_
        refine pv_icmp_gt (tgt := 36) dX9_gust_8 (by decide) ?_ ?_
        · refine pv_mask (ls' := [none, some (.int p1), some (.int p2), some (.int p3), some (.int p4), some (.int p5), none, none, none]) [false, true, true, true, true, true, false, false, false] rfl ?_
          exact hj36 ()
        · refine pv_iload_n dX9_gust_11 rfl ?_
          refine pv_iconst (v := 1) dX9_gust_12 (by decide) ?_
          refine pv_icmp_lt (tgt := 36) dX9_gust_13 (by decide) ?_ ?_
          · refine pv_mask (ls' := [none, some (.int p1), some (.int p2), some (.int p3), some (.int p4), some (.int p5), none, none, none]) [false, true, true, true, true, true, false, false, false] rfl ?_
            exact hj36 ()
          · refine pv_iload_n dX9_gust_16 rfl ?_
            refine pv_bipush (v := 9) dX9_gust_17 (by decide) ?_
            refine pv_icmp_gt (tgt := 36) dX9_gust_19 (by decide) ?_ ?_
            · refine pv_mask (ls' := [none, some (.int p1), some (.int p2), some (.int p3), some (.int p4), some (.int p5), none, none, none]) [false, true, true, true, true, true, false, false, false] rfl ?_
              exact hj36 ()
            · refine pv_iload_n dX9_gust_22 rfl ?_
              refine pv_iconst (v := 1) dX9_gust_23 (by decide) ?_
              refine pv_icmp_lt (tgt := 36) dX9_gust_24 (by decide) ?_ ?_
              · refine pv_mask (ls' := [none, some (.int p1), some (.int p2), some (.int p3), some (.int p4), some (.int p5), none, none, none]) [false, true, true, true, true, true, false, false, false] rfl ?_
                exact hj36 ()
              · refine pv_iload_n dX9_gust_27 rfl ?_
                refine pv_iload_n dX9_gust_28 rfl ?_
                refine pv_icmp_gt (tgt := 36) dX9_gust_29 (by decide) ?_ ?_
                · refine pv_mask (ls' := [none, some (.int p1), some (.int p2), some (.int p3), some (.int p4), some (.int p5), none, none, none]) [false, true, true, true, true, true, false, false, false] rfl ?_
                  exact hj36 ()
                · refine pv_iconst (v := 1) dX9_gust_32 (by decide) ?_
                  refine pv_goto (tgt := 37) dX9_gust_33 (by decide) ?_
                  refine pv_mask (ls' := [none, some (.int p1), some (.int p2), some (.int p3), some (.int p4), some (.int p5), none, none, none]) [false, true, true, true, true, true, false, false, false] rfl ?_
                  exact hj37 (1 : Int32)
def f_X9_year (p1 : Int32) (p2 : Int32) (p3 : Int32) (μ : pm_M) : Option (Int32 × pm_M) :=
  (pm_jn (fun (a1 : Int32) => (if a1 = 0 then (some ((-2 : Int32), μ)) else (if p3 < 0 then (some ((-2 : Int32), μ)) else (if p3 ≤ (2 : Int32) then (f_X2_copyFrom 37 2 μ).bind (fun m2 => (f_X2_drawActs 37 p1 p2 m2).bind (fun m3 => (pm_sw p3 [0, 1] [(f_X2_countGaps 37 m3).bind (fun r4 => (some (r4, m3))), (f_X2_awayBits 37 m3).bind (fun r5 => (f_J6_bitCount_0f7a4 r5).bind (fun r6 => (some (r6, m3))))] ((f_X2_cowsOf 37 (0 : Int32) m3).bind (fun r7 => (some (r7, m3))))))) else (some ((-2 : Int32), μ)))))) (fun j27 => (pm_jn (fun (a8 : Unit) => (j27 (0 : Int32))) (fun j26 => (if p1 < 0 then (j26 ()) else (if (9999 : Int32) < p1 then (j26 ()) else (if p2 < (1 : Int32) then (j26 ()) else (if (99 : Int32) < p2 then (j26 ()) else (j27 (1 : Int32))))))))))
abbrev rm_X9_year : Room := { frames := 6, cells := 0, slots := 0, locals := 136 }
set_option maxRecDepth 20000 in
set_option maxHeartbeats 2000000 in
theorem k_X9_year (l : Launch) (p1 : Int32) (p2 : Int32) (p3 : Int32) (μ : pm_M) : pm_Ok l yX9_year cX9_year 5 (some .int) rm_X9_year [.ref 0, .int p1, .int p2, .int p3] SH false SH 0 0 (fun r => (some (.int r.1), r.2)) μ (f_X9_year p1 p2 p3 μ) := by
  refine pm_enter (own := RX9) (by decide) rfl (fun h => by cases h) (ls := [some (.ref 0), some (.int p1), some (.int p2), some (.int p3), none]) rfl (fun _ => Nat.le_of_ble_eq_true rfl) ?_
  unfold f_X9_year
  refine pv_iload_n dX9_year_0 rfl ?_
  refine pv_jn (pcJ := 27) (lsJ := fun a1 => [some (.ref 0), some (.int p1), some (.int p2), some (.int p3), none]) (stJ := fun a1 => [.int a1]) (mJ := fun a1 => μ) (fun a1 => ?_) (fun j27 hj27 => ?_)
  · refine pv_istore (ls' := [some (.ref 0), some (.int p1), some (.int p2), some (.int p3), some (.int a1)]) dX9_year_27 (Nat.le_of_ble_eq_true rfl) rfl ?_
    refine pv_iload dX9_year_29 rfl ?_
    refine pv_if_eq (tgt := 43) dX9_year_31 (by decide) ?_ ?_
    · refine pv_bipush (v := (-2)) dX9_year_43 (by decide) ?_
      exact pv_iret dX9_year_45 rfl rfl rfl
    · refine pv_iload_n dX9_year_34 rfl ?_
      refine pv_if_lt (tgt := 43) dX9_year_35 (by decide) ?_ ?_
      · refine pv_bipush (v := (-2)) dX9_year_43 (by decide) ?_
        exact pv_iret dX9_year_45 rfl rfl rfl
      · refine pv_iload_n dX9_year_38 rfl ?_
        refine pv_iconst (v := 2) dX9_year_39 (by decide) ?_
        refine pv_icmp_le (tgt := 46) dX9_year_40 (by decide) ?_ ?_
        · refine pv_aload_n dX9_year_46 rfl ?_
          refine pv_getr dX9_year_47 fl_X9_25 sh_0 rfl ?_
          refine pv_aload_n dX9_year_50 rfl ?_
          refine pv_getr dX9_year_51 fl_X9_12 sh_0 rfl ?_
          refine pv_getr dX9_year_54 fl_X9_61 sh_1 rfl ?_
          refine pv_cv_wv (rest := []) dX9_year_57 my_X2_copyFrom vl_X9_134 (k_X2_copyFrom l SH 37 is_X2_37 2 is_X2_2 μ) sh_37 rfl rfl ⟨rfl, rfl, Nat.le_of_ble_eq_true rfl, Nat.le_of_ble_eq_true rfl⟩ ⟨Nat.zero_le _, Nat.zero_le _⟩ (Nat.le_of_ble_eq_true rfl) rfl (fun m2 => ?_)
          refine pv_aload_n dX9_year_60 rfl ?_
          refine pv_getr dX9_year_61 fl_X9_25 sh_0 rfl ?_
          refine pv_iload_n dX9_year_64 rfl ?_
          refine pv_iload_n dX9_year_65 rfl ?_
          refine pv_cv_wv (rest := []) dX9_year_66 my_X2_drawActs vl_X9_233 (k_X2_drawActs l SH 37 is_X2_37 p1 p2 m2) sh_37 rfl rfl ⟨rfl, rfl, Nat.le_of_ble_eq_true rfl, Nat.le_of_ble_eq_true rfl⟩ ⟨Nat.zero_le _, Nat.zero_le _⟩ (Nat.le_of_ble_eq_true rfl) rfl (fun m3 => ?_)
          refine pv_iload_n dX9_year_69 rfl ?_
          refine pv_lookup (kys := [0, 1]) (ts := [96, 104]) (tD := 115) dX9_year_70 (by decide) rfl (by decide) (by decide) ⟨?_, ?_, trivial⟩ ?_
          · refine pv_aload_n dX9_year_96 rfl ?_
            refine pv_getr dX9_year_97 fl_X9_25 sh_0 rfl ?_
            refine pv_cv_ri (rest := []) dX9_year_100 my_X2_countGaps vl_X9_147 (k_X2_countGaps l SH 37 is_X2_37 m3) sh_37 rfl rfl ⟨rfl, rfl, Nat.le_of_ble_eq_true rfl, Nat.le_of_ble_eq_true rfl⟩ ⟨Nat.zero_le _, Nat.zero_le _⟩ (Nat.le_of_ble_eq_true rfl) rfl (fun r4 => ?_)
            exact pv_iret dX9_year_103 rfl rfl rfl
          · refine pv_aload_n dX9_year_104 rfl ?_
            refine pv_getr dX9_year_105 fl_X9_25 sh_0 rfl ?_
            refine pv_cv_ri (rest := []) dX9_year_108 my_X2_awayBits vl_X9_153 (k_X2_awayBits l SH 37 is_X2_37 m3) sh_37 rfl rfl ⟨rfl, rfl, Nat.le_of_ble_eq_true rfl, Nat.le_of_ble_eq_true rfl⟩ ⟨Nat.zero_le _, Nat.zero_le _⟩ (Nat.le_of_ble_eq_true rfl) rfl (fun r5 => ?_)
            refine pv_cs_ri (rest := []) dX9_year_111 my_J6_bitCount_0f7a4 sl_X9_237 (k_J6_bitCount_0f7a4 l SH r5 m3) rfl ⟨rfl, rfl, Nat.le_of_ble_eq_true rfl, Nat.le_of_ble_eq_true rfl⟩ ⟨Nat.zero_le _, Nat.zero_le _⟩ (Nat.le_of_ble_eq_true rfl) rfl (fun r6 => ?_)
            exact pv_iret dX9_year_114 rfl rfl rfl
          · refine pv_aload_n dX9_year_115 rfl ?_
            refine pv_getr dX9_year_116 fl_X9_25 sh_0 rfl ?_
            refine pv_iconst (v := 0) dX9_year_119 (by decide) ?_
            refine pv_cv_ri (rest := []) dX9_year_120 my_X2_cowsOf vl_X9_144 (k_X2_cowsOf l SH 37 is_X2_37 (0 : Int32) m3) sh_37 rfl rfl ⟨rfl, rfl, Nat.le_of_ble_eq_true rfl, Nat.le_of_ble_eq_true rfl⟩ ⟨Nat.zero_le _, Nat.zero_le _⟩ (Nat.le_of_ble_eq_true rfl) rfl (fun r7 => ?_)
            exact pv_iret dX9_year_123 rfl rfl rfl
        · refine pv_bipush (v := (-2)) dX9_year_43 (by decide) ?_
          exact pv_iret dX9_year_45 rfl rfl rfl
  · refine pv_jn (pcJ := 26) (lsJ := fun a8 => [some (.ref 0), some (.int p1), some (.int p2), some (.int p3), none]) (stJ := fun a8 => []) (mJ := fun a8 => μ) (fun a8 => ?_) (fun j26 hj26 => ?_)
    · refine pv_iconst (v := 0) dX9_year_26 (by decide) ?_
      exact hj27 (0 : Int32)
    · refine pv_if_lt (tgt := 26) dX9_year_1 (by decide) ?_ ?_
      · exact hj26 ()
      · refine pv_iload_n dX9_year_4 rfl ?_
        refine pv_sipush (v := 9999) dX9_year_5 (by decide) ?_
        refine pv_icmp_gt (tgt := 26) dX9_year_8 (by decide) ?_ ?_
        · exact hj26 ()
        · refine pv_iload_n dX9_year_11 rfl ?_
          refine pv_iconst (v := 1) dX9_year_12 (by decide) ?_
          refine pv_icmp_lt (tgt := 26) dX9_year_13 (by decide) ?_ ?_
          · exact hj26 ()
          · refine pv_iload_n dX9_year_16 rfl ?_
            refine pv_bipush (v := 99) dX9_year_17 (by decide) ?_
            refine pv_icmp_gt (tgt := 26) dX9_year_19 (by decide) ?_ ?_
            · exact hj26 ()
            · refine pv_iconst (v := 1) dX9_year_22 (by decide) ?_
              refine pv_goto (tgt := 27) dX9_year_23 (by decide) ?_
              exact hj27 (1 : Int32)
def f_X9_image (p1 : Int32) (μ : pm_M) : Option (Int32 × pm_M) :=
  (f_X9_isZeroOrOne p1).bind (fun r1 => (if r1 = 0 then (some ((-2 : Int32), μ)) else (if p1 = 0 then (f_X8_copyFrom 13 1 μ).bind (fun m4 => pm_let (pm_up m4 13 3 (1 : Int32)) (fun m5 => (some ((1 : Int32), m5)))) else (f_X8_copyFrom 25 1 μ).bind (fun m2 => pm_let (pm_up m2 25 3 (1 : Int32)) (fun m3 => (some ((1 : Int32), m3)))))))
abbrev rm_X9_image : Room := { frames := 3, cells := 0, slots := 0, locals := 60 }
set_option maxRecDepth 20000 in
set_option maxHeartbeats 2000000 in
theorem k_X9_image (l : Launch) (p1 : Int32) (μ : pm_M) : pm_Ok l yX9_image cX9_image 3 (some .int) rm_X9_image [.ref 0, .int p1] SH false SH 0 0 (fun r => (some (.int r.1), r.2)) μ (f_X9_image p1 μ) := by
  refine pm_enter (own := RX9) (by decide) rfl (fun h => by cases h) (ls := [some (.ref 0), some (.int p1), none]) rfl (fun _ => Nat.le_of_ble_eq_true rfl) ?_
  unfold f_X9_image
  refine pv_iload_n dX9_image_0 rfl ?_
  refine pv_cs_ri (rest := []) dX9_image_1 my_X9_isZeroOrOne sl_X9_120 (k_X9_isZeroOrOne l SH p1 μ) rfl ⟨rfl, rfl, Nat.le_of_ble_eq_true rfl, Nat.le_of_ble_eq_true rfl⟩ ⟨Nat.zero_le _, Nat.zero_le _⟩ (Nat.le_of_ble_eq_true rfl) rfl (fun r1 => ?_)
  refine pv_if_ne (tgt := 10) dX9_image_4 (by decide) ?_ ?_
  · refine pv_iload_n dX9_image_10 rfl ?_
    refine pv_if_ne (tgt := 21) dX9_image_11 (by decide) ?_ ?_
    · refine pv_aload_n dX9_image_21 rfl ?_
      refine pv_getr dX9_image_22 fl_X9_19 sh_0 rfl ?_
      refine pv_astore_n (ls' := [some (.ref 0), some (.int p1), some (.ref 25)]) dX9_image_25 (Nat.le_of_ble_eq_true rfl) rfl ?_
      refine pv_aload_n dX9_image_26 rfl ?_
      refine pv_aload_n dX9_image_27 rfl ?_
      refine pv_getr dX9_image_28 fl_X9_12 sh_0 rfl ?_
      refine pv_cv_wv (rest := []) dX9_image_31 my_X8_copyFrom vl_X9_242 (k_X8_copyFrom l SH 25 is_X8_25 1 is_X8_1 μ) sh_25 rfl rfl ⟨rfl, rfl, Nat.le_of_ble_eq_true rfl, Nat.le_of_ble_eq_true rfl⟩ ⟨Nat.zero_le _, Nat.zero_le _⟩ (Nat.le_of_ble_eq_true rfl) rfl (fun m2 => ?_)
      refine pv_aload_n dX9_image_34 rfl ?_
      refine pv_iconst (v := 1) dX9_image_35 (by decide) ?_
      refine pv_putn dX9_image_36 fp_X9_245 sh_25 rfl rfl rfl ?_
      refine pv_letM (fun m3 => ?_)
      refine pv_iconst (v := 1) dX9_image_39 (by decide) ?_
      exact pv_iret dX9_image_40 rfl rfl rfl
    · refine pv_aload_n dX9_image_14 rfl ?_
      refine pv_getr dX9_image_15 fl_X9_16 sh_0 rfl ?_
      refine pv_goto (tgt := 25) dX9_image_18 (by decide) ?_
      refine pv_astore_n (ls' := [some (.ref 0), some (.int p1), some (.ref 13)]) dX9_image_25 (Nat.le_of_ble_eq_true rfl) rfl ?_
      refine pv_aload_n dX9_image_26 rfl ?_
      refine pv_aload_n dX9_image_27 rfl ?_
      refine pv_getr dX9_image_28 fl_X9_12 sh_0 rfl ?_
      refine pv_cv_wv (rest := []) dX9_image_31 my_X8_copyFrom vl_X9_242 (k_X8_copyFrom l SH 13 is_X8_13 1 is_X8_1 μ) sh_13 rfl rfl ⟨rfl, rfl, Nat.le_of_ble_eq_true rfl, Nat.le_of_ble_eq_true rfl⟩ ⟨Nat.zero_le _, Nat.zero_le _⟩ (Nat.le_of_ble_eq_true rfl) rfl (fun m4 => ?_)
      refine pv_aload_n dX9_image_34 rfl ?_
      refine pv_iconst (v := 1) dX9_image_35 (by decide) ?_
      refine pv_putn dX9_image_36 fp_X9_245 sh_13 rfl rfl rfl ?_
      refine pv_letM (fun m5 => ?_)
      refine pv_iconst (v := 1) dX9_image_39 (by decide) ?_
      exact pv_iret dX9_image_40 rfl rfl rfl
  · refine pv_bipush (v := (-2)) dX9_image_7 (by decide) ?_
    exact pv_iret dX9_image_9 rfl rfl rfl
def f_X9_restore (p1 : Int32) (μ : pm_M) : Option (Int32 × pm_M) :=
  (f_X9_isZeroOrOne p1).bind (fun r1 => (if r1 = 0 then (some ((-2 : Int32), μ)) else (if p1 = 0 then (if (μ 13 3) = 0 then (some ((-3 : Int32), μ)) else (f_X8_copyFrom 1 13 μ).bind (fun m3 => (some ((1 : Int32), m3)))) else (if (μ 25 3) = 0 then (some ((-3 : Int32), μ)) else (f_X8_copyFrom 1 25 μ).bind (fun m2 => (some ((1 : Int32), m2)))))))
abbrev rm_X9_restore : Room := { frames := 3, cells := 0, slots := 0, locals := 60 }
set_option maxRecDepth 20000 in
set_option maxHeartbeats 2000000 in
theorem k_X9_restore (l : Launch) (p1 : Int32) (μ : pm_M) : pm_Ok l yX9_restore cX9_restore 3 (some .int) rm_X9_restore [.ref 0, .int p1] SH false SH 0 0 (fun r => (some (.int r.1), r.2)) μ (f_X9_restore p1 μ) := by
  refine pm_enter (own := RX9) (by decide) rfl (fun h => by cases h) (ls := [some (.ref 0), some (.int p1), none]) rfl (fun _ => Nat.le_of_ble_eq_true rfl) ?_
  unfold f_X9_restore
  refine pv_iload_n dX9_restore_0 rfl ?_
  refine pv_cs_ri (rest := []) dX9_restore_1 my_X9_isZeroOrOne sl_X9_120 (k_X9_isZeroOrOne l SH p1 μ) rfl ⟨rfl, rfl, Nat.le_of_ble_eq_true rfl, Nat.le_of_ble_eq_true rfl⟩ ⟨Nat.zero_le _, Nat.zero_le _⟩ (Nat.le_of_ble_eq_true rfl) rfl (fun r1 => ?_)
  refine pv_if_ne (tgt := 10) dX9_restore_4 (by decide) ?_ ?_
  · refine pv_iload_n dX9_restore_10 rfl ?_
    refine pv_if_ne (tgt := 21) dX9_restore_11 (by decide) ?_ ?_
    · refine pv_aload_n dX9_restore_21 rfl ?_
      refine pv_getr dX9_restore_22 fl_X9_19 sh_0 rfl ?_
      refine pv_astore_n (ls' := [some (.ref 0), some (.int p1), some (.ref 25)]) dX9_restore_25 (Nat.le_of_ble_eq_true rfl) rfl ?_
      refine pv_aload_n dX9_restore_26 rfl ?_
      refine pv_geti dX9_restore_27 fl_X9_245 sh_25 rfl ?_
      refine pv_if_ne (tgt := 36) dX9_restore_30 (by decide) ?_ ?_
      · refine pv_aload_n dX9_restore_36 rfl ?_
        refine pv_getr dX9_restore_37 fl_X9_12 sh_0 rfl ?_
        refine pv_aload_n dX9_restore_40 rfl ?_
        refine pv_cv_wv (rest := []) dX9_restore_41 my_X8_copyFrom vl_X9_242 (k_X8_copyFrom l SH 1 is_X8_1 25 is_X8_25 μ) sh_1 rfl rfl ⟨rfl, rfl, Nat.le_of_ble_eq_true rfl, Nat.le_of_ble_eq_true rfl⟩ ⟨Nat.zero_le _, Nat.zero_le _⟩ (Nat.le_of_ble_eq_true rfl) rfl (fun m2 => ?_)
        refine pv_iconst (v := 1) dX9_restore_44 (by decide) ?_
        exact pv_iret dX9_restore_45 rfl rfl rfl
      · refine pv_bipush (v := (-3)) dX9_restore_33 (by decide) ?_
        exact pv_iret dX9_restore_35 rfl rfl rfl
    · refine pv_aload_n dX9_restore_14 rfl ?_
      refine pv_getr dX9_restore_15 fl_X9_16 sh_0 rfl ?_
      refine pv_goto (tgt := 25) dX9_restore_18 (by decide) ?_
      refine pv_astore_n (ls' := [some (.ref 0), some (.int p1), some (.ref 13)]) dX9_restore_25 (Nat.le_of_ble_eq_true rfl) rfl ?_
      refine pv_aload_n dX9_restore_26 rfl ?_
      refine pv_geti dX9_restore_27 fl_X9_245 sh_13 rfl ?_
      refine pv_if_ne (tgt := 36) dX9_restore_30 (by decide) ?_ ?_
      · refine pv_aload_n dX9_restore_36 rfl ?_
        refine pv_getr dX9_restore_37 fl_X9_12 sh_0 rfl ?_
        refine pv_aload_n dX9_restore_40 rfl ?_
        refine pv_cv_wv (rest := []) dX9_restore_41 my_X8_copyFrom vl_X9_242 (k_X8_copyFrom l SH 1 is_X8_1 13 is_X8_13 μ) sh_1 rfl rfl ⟨rfl, rfl, Nat.le_of_ble_eq_true rfl, Nat.le_of_ble_eq_true rfl⟩ ⟨Nat.zero_le _, Nat.zero_le _⟩ (Nat.le_of_ble_eq_true rfl) rfl (fun m3 => ?_)
        refine pv_iconst (v := 1) dX9_restore_44 (by decide) ?_
        exact pv_iret dX9_restore_45 rfl rfl rfl
      · refine pv_bipush (v := (-3)) dX9_restore_33 (by decide) ?_
        exact pv_iret dX9_restore_35 rfl rfl rfl
  · refine pv_bipush (v := (-2)) dX9_restore_7 (by decide) ?_
    exact pv_iret dX9_restore_9 rfl rfl rfl
def f_X9_toldOfAll (p1 : Int32) (μ : pm_M) : Option Int32 :=
  (pm_sw p1 [0, 1, 2, 3, 4] [(f_X3_size μ).bind (fun r1 => (some r1)), (f_X2_countGaps 2 μ).bind (fun r2 => (some r2)), (f_X2_awayBits 2 μ).bind (fun r3 => (some r3)), (some (μ 2 4)), (some (μ 10 3))] ((some (-2 : Int32))))
abbrev rm_X9_toldOfAll : Room := { frames := 2, cells := 0, slots := 0, locals := 46 }
set_option maxRecDepth 20000 in
set_option maxHeartbeats 2000000 in
theorem k_X9_toldOfAll (l : Launch) (p1 : Int32) (μ : pm_M) : pm_Ok l yX9_toldOfAll cX9_toldOfAll 2 (some .int) rm_X9_toldOfAll [.ref 0, .int p1] SH false SH 0 0 (fun r => (some (.int r), μ)) μ (f_X9_toldOfAll p1 μ) := by
  refine pm_enter (own := RX9) (by decide) rfl (fun h => by cases h) (ls := [some (.ref 0), some (.int p1)]) rfl (fun _ => Nat.le_of_ble_eq_true rfl) ?_
  unfold f_X9_toldOfAll
  refine pv_iload_n dX9_toldOfAll_0 rfl ?_
  refine pv_table (kys := [0, 1, 2, 3, 4]) (ts := [36, 44, 55, 66, 77]) (tD := 88) dX9_toldOfAll_1 rfl (by decide) (by decide) (by decide) (by decide) ⟨?_, ?_, ?_, ?_, ?_, trivial⟩ ?_
  · refine pv_aload_n dX9_toldOfAll_36 rfl ?_
    refine pv_getr dX9_toldOfAll_37 fl_X9_32 sh_0 rfl ?_
    refine pv_cv_ri (rest := []) dX9_toldOfAll_40 my_X3_size vl_X9_111 (k_X3_size l μ) sh_42 rfl rfl ⟨rfl, rfl, Nat.le_of_ble_eq_true rfl, Nat.le_of_ble_eq_true rfl⟩ ⟨Nat.zero_le _, Nat.zero_le _⟩ (Nat.le_of_ble_eq_true rfl) rfl (fun r1 => ?_)
    exact pv_iret dX9_toldOfAll_43 rfl rfl rfl
  · refine pv_aload_n dX9_toldOfAll_44 rfl ?_
    refine pv_getr dX9_toldOfAll_45 fl_X9_12 sh_0 rfl ?_
    refine pv_getr dX9_toldOfAll_48 fl_X9_61 sh_1 rfl ?_
    refine pv_cv_ri (rest := []) dX9_toldOfAll_51 my_X2_countGaps vl_X9_147 (k_X2_countGaps l SH 2 is_X2_2 μ) sh_2 rfl rfl ⟨rfl, rfl, Nat.le_of_ble_eq_true rfl, Nat.le_of_ble_eq_true rfl⟩ ⟨Nat.zero_le _, Nat.zero_le _⟩ (Nat.le_of_ble_eq_true rfl) rfl (fun r2 => ?_)
    exact pv_iret dX9_toldOfAll_54 rfl rfl rfl
  · refine pv_aload_n dX9_toldOfAll_55 rfl ?_
    refine pv_getr dX9_toldOfAll_56 fl_X9_12 sh_0 rfl ?_
    refine pv_getr dX9_toldOfAll_59 fl_X9_61 sh_1 rfl ?_
    refine pv_cv_ri (rest := []) dX9_toldOfAll_62 my_X2_awayBits vl_X9_153 (k_X2_awayBits l SH 2 is_X2_2 μ) sh_2 rfl rfl ⟨rfl, rfl, Nat.le_of_ble_eq_true rfl, Nat.le_of_ble_eq_true rfl⟩ ⟨Nat.zero_le _, Nat.zero_le _⟩ (Nat.le_of_ble_eq_true rfl) rfl (fun r3 => ?_)
    exact pv_iret dX9_toldOfAll_65 rfl rfl rfl
  · refine pv_aload_n dX9_toldOfAll_66 rfl ?_
    refine pv_getr dX9_toldOfAll_67 fl_X9_12 sh_0 rfl ?_
    refine pv_getr dX9_toldOfAll_70 fl_X9_61 sh_1 rfl ?_
    refine pv_geti dX9_toldOfAll_73 fl_X9_156 sh_2 rfl ?_
    exact pv_iret dX9_toldOfAll_76 rfl rfl rfl
  · refine pv_aload_n dX9_toldOfAll_77 rfl ?_
    refine pv_getr dX9_toldOfAll_78 fl_X9_12 sh_0 rfl ?_
    refine pv_getr dX9_toldOfAll_81 fl_X9_187 sh_1 rfl ?_
    refine pv_geti dX9_toldOfAll_84 fl_X9_196 sh_10 rfl ?_
    exact pv_iret dX9_toldOfAll_87 rfl rfl rfl
  · refine pv_bipush (v := (-2)) dX9_toldOfAll_88 (by decide) ?_
    exact pv_iret dX9_toldOfAll_90 rfl rfl rfl
def f_X9_toldOfFarm (p1 : Int32) (p2 : Int32) (μ : pm_M) : Option Int32 :=
  (f_X9_isFarm p2).bind (fun r1 => (if r1 = 0 then (some (-2 : Int32)) else (if p1 = (1 : Int32) then (f_X2_placeOf 2 p2 μ).bind (fun r3 => (some r3)) else (f_X2_cowsOf 2 p2 μ).bind (fun r2 => (some r2)))))
abbrev rm_X9_toldOfFarm : Room := { frames := 2, cells := 0, slots := 0, locals := 41 }
set_option maxRecDepth 20000 in
set_option maxHeartbeats 2000000 in
theorem k_X9_toldOfFarm (l : Launch) (p1 : Int32) (p2 : Int32) (μ : pm_M) : pm_Ok l yX9_toldOfFarm cX9_toldOfFarm 3 (some .int) rm_X9_toldOfFarm [.ref 0, .int p1, .int p2] SH false SH 0 0 (fun r => (some (.int r), μ)) μ (f_X9_toldOfFarm p1 p2 μ) := by
  refine pm_enter (own := RX9) (by decide) rfl (fun h => by cases h) (ls := [some (.ref 0), some (.int p1), some (.int p2)]) rfl (fun _ => Nat.le_of_ble_eq_true rfl) ?_
  unfold f_X9_toldOfFarm
  refine pv_iload_n dX9_toldOfFarm_0 rfl ?_
  refine pv_cs_ri (rest := []) dX9_toldOfFarm_1 my_X9_isFarm sl_X9_79 (k_X9_isFarm l SH p2 μ) rfl ⟨rfl, rfl, Nat.le_of_ble_eq_true rfl, Nat.le_of_ble_eq_true rfl⟩ ⟨Nat.zero_le _, Nat.zero_le _⟩ (Nat.le_of_ble_eq_true rfl) rfl (fun r1 => ?_)
  refine pv_if_ne (tgt := 10) dX9_toldOfFarm_4 (by decide) ?_ ?_
  · refine pv_iload_n dX9_toldOfFarm_10 rfl ?_
    refine pv_iconst (v := 1) dX9_toldOfFarm_11 (by decide) ?_
    refine pv_icmp_ne (tgt := 29) dX9_toldOfFarm_12 (by decide) ?_ ?_
    · refine pv_aload_n dX9_toldOfFarm_29 rfl ?_
      refine pv_getr dX9_toldOfFarm_30 fl_X9_12 sh_0 rfl ?_
      refine pv_getr dX9_toldOfFarm_33 fl_X9_61 sh_1 rfl ?_
      refine pv_iload_n dX9_toldOfFarm_36 rfl ?_
      refine pv_cv_ri (rest := []) dX9_toldOfFarm_37 my_X2_cowsOf vl_X9_144 (k_X2_cowsOf l SH 2 is_X2_2 p2 μ) sh_2 rfl rfl ⟨rfl, rfl, Nat.le_of_ble_eq_true rfl, Nat.le_of_ble_eq_true rfl⟩ ⟨Nat.zero_le _, Nat.zero_le _⟩ (Nat.le_of_ble_eq_true rfl) rfl (fun r2 => ?_)
      exact pv_iret dX9_toldOfFarm_40 rfl rfl rfl
    · refine pv_aload_n dX9_toldOfFarm_15 rfl ?_
      refine pv_getr dX9_toldOfFarm_16 fl_X9_12 sh_0 rfl ?_
      refine pv_getr dX9_toldOfFarm_19 fl_X9_61 sh_1 rfl ?_
      refine pv_iload_n dX9_toldOfFarm_22 rfl ?_
      refine pv_cv_ri (rest := []) dX9_toldOfFarm_23 my_X2_placeOf vl_X9_83 (k_X2_placeOf l SH 2 is_X2_2 p2 μ) sh_2 rfl rfl ⟨rfl, rfl, Nat.le_of_ble_eq_true rfl, Nat.le_of_ble_eq_true rfl⟩ ⟨Nat.zero_le _, Nat.zero_le _⟩ (Nat.le_of_ble_eq_true rfl) rfl (fun r3 => ?_)
      refine pv_goto (tgt := 40) dX9_toldOfFarm_26 (by decide) ?_
      exact pv_iret dX9_toldOfFarm_40 rfl rfl rfl
  · refine pv_bipush (v := (-2)) dX9_toldOfFarm_7 (by decide) ?_
    exact pv_iret dX9_toldOfFarm_9 rfl rfl rfl
def f_X9_toldOfOne (p1 : Int32) (p2 : Int32) (μ : pm_M) : Option Int32 :=
  (f_X9_isOne p1 p2).bind (fun r1 => (if r1 = 0 then (some (-2 : Int32)) else (f_X1_rowOf 7 p1 p2 μ).bind (fun r2 => (some r2))))
abbrev rm_X9_toldOfOne : Room := { frames := 3, cells := 0, slots := 0, locals := 63 }
set_option maxRecDepth 20000 in
set_option maxHeartbeats 2000000 in
theorem k_X9_toldOfOne (l : Launch) (p1 : Int32) (p2 : Int32) (μ : pm_M) : pm_Ok l yX9_toldOfOne cX9_toldOfOne 3 (some .int) rm_X9_toldOfOne [.ref 0, .int p1, .int p2] SH false SH 0 0 (fun r => (some (.int r), μ)) μ (f_X9_toldOfOne p1 p2 μ) := by
  refine pm_enter (own := RX9) (by decide) rfl (fun h => by cases h) (ls := [some (.ref 0), some (.int p1), some (.int p2)]) rfl (fun _ => Nat.le_of_ble_eq_true rfl) ?_
  unfold f_X9_toldOfOne
  refine pv_iload_n dX9_toldOfOne_0 rfl ?_
  refine pv_iload_n dX9_toldOfOne_1 rfl ?_
  refine pv_cs_ri (rest := []) dX9_toldOfOne_2 my_X9_isOne sl_X9_90 (k_X9_isOne l SH p1 p2 μ) rfl ⟨rfl, rfl, Nat.le_of_ble_eq_true rfl, Nat.le_of_ble_eq_true rfl⟩ ⟨Nat.zero_le _, Nat.zero_le _⟩ (Nat.le_of_ble_eq_true rfl) rfl (fun r1 => ?_)
  refine pv_if_eq (tgt := 23) dX9_toldOfOne_5 (by decide) ?_ ?_
  · refine pv_bipush (v := (-2)) dX9_toldOfOne_23 (by decide) ?_
    exact pv_iret dX9_toldOfOne_25 rfl rfl rfl
  · refine pv_aload_n dX9_toldOfOne_8 rfl ?_
    refine pv_getr dX9_toldOfOne_9 fl_X9_12 sh_0 rfl ?_
    refine pv_getr dX9_toldOfOne_12 fl_X9_98 sh_1 rfl ?_
    refine pv_iload_n dX9_toldOfOne_15 rfl ?_
    refine pv_iload_n dX9_toldOfOne_16 rfl ?_
    refine pv_cv_ri (rest := []) dX9_toldOfOne_17 my_X1_rowOf vl_X9_102 (k_X1_rowOf l SH 7 is_X1_7 p1 p2 μ) sh_7 rfl rfl ⟨rfl, rfl, Nat.le_of_ble_eq_true rfl, Nat.le_of_ble_eq_true rfl⟩ ⟨Nat.zero_le _, Nat.zero_le _⟩ (Nat.le_of_ble_eq_true rfl) rfl (fun r2 => ?_)
    refine pv_goto (tgt := 25) dX9_toldOfOne_20 (by decide) ?_
    exact pv_iret dX9_toldOfOne_25 rfl rfl rfl
def f_X9_toldOfPair (p1 : Int32) (p2 : Int32) (p3 : Int32) (μ : pm_M) : Option Int32 :=
  (f_X9_isFarm p2).bind (fun r1 => (if r1 = 0 then (some (-2 : Int32)) else (f_X9_isFarm p3).bind (fun r2 => (if r2 = 0 then (some (-2 : Int32)) else (if p1 ≤ (2 : Int32) then (if p1 = (1 : Int32) then (f_X2_strengthBetween 2 p2 p3 μ).bind (fun r4 => (some r4)) else (f_X2_milesBetween 2 p2 p3 μ).bind (fun r3 => (some r3))) else (some (-2 : Int32)))))))
abbrev rm_X9_toldOfPair : Room := { frames := 2, cells := 0, slots := 0, locals := 42 }
set_option maxRecDepth 20000 in
set_option maxHeartbeats 2000000 in
theorem k_X9_toldOfPair (l : Launch) (p1 : Int32) (p2 : Int32) (p3 : Int32) (μ : pm_M) : pm_Ok l yX9_toldOfPair cX9_toldOfPair 4 (some .int) rm_X9_toldOfPair [.ref 0, .int p1, .int p2, .int p3] SH false SH 0 0 (fun r => (some (.int r), μ)) μ (f_X9_toldOfPair p1 p2 p3 μ) := by
  refine pm_enter (own := RX9) (by decide) rfl (fun h => by cases h) (ls := [some (.ref 0), some (.int p1), some (.int p2), some (.int p3)]) rfl (fun _ => Nat.le_of_ble_eq_true rfl) ?_
  unfold f_X9_toldOfPair
  refine pv_iload_n dX9_toldOfPair_0 rfl ?_
  refine pv_cs_ri (rest := []) dX9_toldOfPair_1 my_X9_isFarm sl_X9_79 (k_X9_isFarm l SH p2 μ) rfl ⟨rfl, rfl, Nat.le_of_ble_eq_true rfl, Nat.le_of_ble_eq_true rfl⟩ ⟨Nat.zero_le _, Nat.zero_le _⟩ (Nat.le_of_ble_eq_true rfl) rfl (fun r1 => ?_)
  refine pv_if_eq (tgt := 19) dX9_toldOfPair_4 (by decide) ?_ ?_
  · refine pv_bipush (v := (-2)) dX9_toldOfPair_19 (by decide) ?_
    exact pv_iret dX9_toldOfPair_21 rfl rfl rfl
  · refine pv_iload_n dX9_toldOfPair_7 rfl ?_
    refine pv_cs_ri (rest := []) dX9_toldOfPair_8 my_X9_isFarm sl_X9_79 (k_X9_isFarm l SH p3 μ) rfl ⟨rfl, rfl, Nat.le_of_ble_eq_true rfl, Nat.le_of_ble_eq_true rfl⟩ ⟨Nat.zero_le _, Nat.zero_le _⟩ (Nat.le_of_ble_eq_true rfl) rfl (fun r2 => ?_)
    refine pv_if_eq (tgt := 19) dX9_toldOfPair_11 (by decide) ?_ ?_
    · refine pv_bipush (v := (-2)) dX9_toldOfPair_19 (by decide) ?_
      exact pv_iret dX9_toldOfPair_21 rfl rfl rfl
    · refine pv_iload_n dX9_toldOfPair_14 rfl ?_
      refine pv_iconst (v := 2) dX9_toldOfPair_15 (by decide) ?_
      refine pv_icmp_le (tgt := 22) dX9_toldOfPair_16 (by decide) ?_ ?_
      · refine pv_iload_n dX9_toldOfPair_22 rfl ?_
        refine pv_iconst (v := 1) dX9_toldOfPair_23 (by decide) ?_
        refine pv_icmp_ne (tgt := 42) dX9_toldOfPair_24 (by decide) ?_ ?_
        · refine pv_aload_n dX9_toldOfPair_42 rfl ?_
          refine pv_getr dX9_toldOfPair_43 fl_X9_12 sh_0 rfl ?_
          refine pv_getr dX9_toldOfPair_46 fl_X9_61 sh_1 rfl ?_
          refine pv_iload_n dX9_toldOfPair_49 rfl ?_
          refine pv_iload_n dX9_toldOfPair_50 rfl ?_
          refine pv_cv_ri (rest := []) dX9_toldOfPair_51 my_X2_milesBetween vl_X9_72 (k_X2_milesBetween l SH 2 is_X2_2 p2 p3 μ) sh_2 rfl rfl ⟨rfl, rfl, Nat.le_of_ble_eq_true rfl, Nat.le_of_ble_eq_true rfl⟩ ⟨Nat.zero_le _, Nat.zero_le _⟩ (Nat.le_of_ble_eq_true rfl) rfl (fun r3 => ?_)
          exact pv_iret dX9_toldOfPair_54 rfl rfl rfl
        · refine pv_aload_n dX9_toldOfPair_27 rfl ?_
          refine pv_getr dX9_toldOfPair_28 fl_X9_12 sh_0 rfl ?_
          refine pv_getr dX9_toldOfPair_31 fl_X9_61 sh_1 rfl ?_
          refine pv_iload_n dX9_toldOfPair_34 rfl ?_
          refine pv_iload_n dX9_toldOfPair_35 rfl ?_
          refine pv_cv_ri (rest := []) dX9_toldOfPair_36 my_X2_strengthBetween vl_X9_141 (k_X2_strengthBetween l SH 2 is_X2_2 p2 p3 μ) sh_2 rfl rfl ⟨rfl, rfl, Nat.le_of_ble_eq_true rfl, Nat.le_of_ble_eq_true rfl⟩ ⟨Nat.zero_le _, Nat.zero_le _⟩ (Nat.le_of_ble_eq_true rfl) rfl (fun r4 => ?_)
          refine pv_goto (tgt := 54) dX9_toldOfPair_39 (by decide) ?_
          exact pv_iret dX9_toldOfPair_54 rfl rfl rfl
      · refine pv_bipush (v := (-2)) dX9_toldOfPair_19 (by decide) ?_
        exact pv_iret dX9_toldOfPair_21 rfl rfl rfl
def f_X9_told (p1 : Int32) (μ : pm_M) : Option Int32 :=
  (if 0 ≤ p1 then (if (10 : Int32) ≤ p1 then (if (30 : Int32) ≤ p1 then (if (100 : Int32) ≤ p1 then (f_X9_toldOfPair (p1 / (100 : Int32)) (pm_rem (p1 / (10 : Int32)) (10 : Int32)) (pm_rem p1 (10 : Int32)) μ).bind (fun r1 => (some r1)) else (f_X9_toldOfOne ((p1 / (10 : Int32)) - (3 : Int32)) (pm_rem p1 (10 : Int32)) μ).bind (fun r2 => (some r2))) else (f_X9_toldOfFarm (p1 / (10 : Int32)) (pm_rem p1 (10 : Int32)) μ).bind (fun r3 => (some r3))) else (f_X9_toldOfAll p1 μ).bind (fun r4 => (some r4))) else (some (-2 : Int32)))
abbrev rm_X9_told : Room := { frames := 4, cells := 0, slots := 0, locals := 85 }
set_option maxRecDepth 20000 in
set_option maxHeartbeats 2000000 in
theorem k_X9_told (l : Launch) (p1 : Int32) (μ : pm_M) : pm_Ok l yX9_told cX9_told 2 (some .int) rm_X9_told [.ref 0, .int p1] SH false SH 0 0 (fun r => (some (.int r), μ)) μ (f_X9_told p1 μ) := by
  refine pm_enter (own := RX9) (by decide) rfl (fun h => by cases h) (ls := [some (.ref 0), some (.int p1)]) rfl (fun _ => Nat.le_of_ble_eq_true rfl) ?_
  unfold f_X9_told
  refine pv_iload_n dX9_told_0 rfl ?_
  refine pv_if_ge (tgt := 7) dX9_told_1 (by decide) ?_ ?_
  · refine pv_iload_n dX9_told_7 rfl ?_
    refine pv_bipush (v := 10) dX9_told_8 (by decide) ?_
    refine pv_icmp_ge (tgt := 19) dX9_told_10 (by decide) ?_ ?_
    · refine pv_iload_n dX9_told_19 rfl ?_
      refine pv_bipush (v := 30) dX9_told_20 (by decide) ?_
      refine pv_icmp_ge (tgt := 38) dX9_told_22 (by decide) ?_ ?_
      · refine pv_iload_n dX9_told_38 rfl ?_
        refine pv_bipush (v := 100) dX9_told_39 (by decide) ?_
        refine pv_icmp_ge (tgt := 59) dX9_told_41 (by decide) ?_ ?_
        · refine pv_aload_n dX9_told_59 rfl ?_
          refine pv_iload_n dX9_told_60 rfl ?_
          refine pv_bipush (v := 100) dX9_told_61 (by decide) ?_
          refine pv_idiv dX9_told_63 (by decide) ?_
          refine pv_iload_n dX9_told_64 rfl ?_
          refine pv_bipush (v := 10) dX9_told_65 (by decide) ?_
          refine pv_idiv dX9_told_67 (by decide) ?_
          refine pv_bipush (v := 10) dX9_told_68 (by decide) ?_
          refine pv_irem dX9_told_70 (by decide) ?_
          refine pv_iload_n dX9_told_71 rfl ?_
          refine pv_bipush (v := 10) dX9_told_72 (by decide) ?_
          refine pv_irem dX9_told_74 (by decide) ?_
          refine pv_cv_ri (rest := []) dX9_told_75 my_X9_toldOfPair vl_X9_258 (k_X9_toldOfPair l (p1 / (100 : Int32)) (pm_rem (p1 / (10 : Int32)) (10 : Int32)) (pm_rem p1 (10 : Int32)) μ) sh_0 rfl rfl ⟨rfl, rfl, Nat.le_of_ble_eq_true rfl, Nat.le_of_ble_eq_true rfl⟩ ⟨Nat.zero_le _, Nat.zero_le _⟩ (Nat.le_of_ble_eq_true rfl) rfl (fun r1 => ?_)
          exact pv_iret dX9_told_78 rfl rfl rfl
        · refine pv_aload_n dX9_told_44 rfl ?_
          refine pv_iload_n dX9_told_45 rfl ?_
          refine pv_bipush (v := 10) dX9_told_46 (by decide) ?_
          refine pv_idiv dX9_told_48 (by decide) ?_
          refine pv_iconst (v := 3) dX9_told_49 (by decide) ?_
          refine pv_isub dX9_told_50 ?_
          refine pv_iload_n dX9_told_51 rfl ?_
          refine pv_bipush (v := 10) dX9_told_52 (by decide) ?_
          refine pv_irem dX9_told_54 (by decide) ?_
          refine pv_cv_ri (rest := []) dX9_told_55 my_X9_toldOfOne vl_X9_255 (k_X9_toldOfOne l ((p1 / (10 : Int32)) - (3 : Int32)) (pm_rem p1 (10 : Int32)) μ) sh_0 rfl rfl ⟨rfl, rfl, Nat.le_of_ble_eq_true rfl, Nat.le_of_ble_eq_true rfl⟩ ⟨Nat.zero_le _, Nat.zero_le _⟩ (Nat.le_of_ble_eq_true rfl) rfl (fun r2 => ?_)
          exact pv_iret dX9_told_58 rfl rfl rfl
      · refine pv_aload_n dX9_told_25 rfl ?_
        refine pv_iload_n dX9_told_26 rfl ?_
        refine pv_bipush (v := 10) dX9_told_27 (by decide) ?_
        refine pv_idiv dX9_told_29 (by decide) ?_
        refine pv_iload_n dX9_told_30 rfl ?_
        refine pv_bipush (v := 10) dX9_told_31 (by decide) ?_
        refine pv_irem dX9_told_33 (by decide) ?_
        refine pv_cv_ri (rest := []) dX9_told_34 my_X9_toldOfFarm vl_X9_252 (k_X9_toldOfFarm l (p1 / (10 : Int32)) (pm_rem p1 (10 : Int32)) μ) sh_0 rfl rfl ⟨rfl, rfl, Nat.le_of_ble_eq_true rfl, Nat.le_of_ble_eq_true rfl⟩ ⟨Nat.zero_le _, Nat.zero_le _⟩ (Nat.le_of_ble_eq_true rfl) rfl (fun r3 => ?_)
        exact pv_iret dX9_told_37 rfl rfl rfl
    · refine pv_aload_n dX9_told_13 rfl ?_
      refine pv_iload_n dX9_told_14 rfl ?_
      refine pv_cv_ri (rest := []) dX9_told_15 my_X9_toldOfAll vl_X9_249 (k_X9_toldOfAll l p1 μ) sh_0 rfl rfl ⟨rfl, rfl, Nat.le_of_ble_eq_true rfl, Nat.le_of_ble_eq_true rfl⟩ ⟨Nat.zero_le _, Nat.zero_le _⟩ (Nat.le_of_ble_eq_true rfl) rfl (fun r4 => ?_)
      exact pv_iret dX9_told_18 rfl rfl rfl
  · refine pv_bipush (v := (-2)) dX9_told_4 (by decide) ?_
    exact pv_iret dX9_told_6 rfl rfl rfl
