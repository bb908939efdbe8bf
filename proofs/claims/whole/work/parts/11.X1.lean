def f_X1_copyFrom (b : Nat) (c : Nat) (μ : pm_M) : Option pm_M :=
  pm_let (pm_cp μ (c + 1) (b + 1) 8) (fun m1 => pm_let (pm_cp m1 (c + 2) (b + 2) 32) (fun m2 => (some m2)))
abbrev rm_X1_copyFrom : Room := { frames := 1, cells := 0, slots := 0, locals := 18 }
set_option maxRecDepth 20000 in
set_option maxHeartbeats 2000000 in
theorem k_X1_copyFrom (l : Launch) (sh : pm_S) (b : Nat) (hb : is_X1 sh b) (c : Nat) (hc : is_X1 sh c) (μ : pm_M) : pm_Ok l yX1_copyFrom cX1_copyFrom 2 none rm_X1_copyFrom [.ref b, .ref c] sh false sh 0 0 (fun r => (none, r)) μ (f_X1_copyFrom b c μ) := by
  obtain ⟨hb0, hb1, hb2⟩ := id hb
  obtain ⟨hc0, hc1, hc2⟩ := id hc
  refine pm_enter (own := RX1) (by decide) rfl (fun h => by cases h) (ls := [some (.ref b), some (.ref c)]) rfl (fun _ => Nat.le_of_ble_eq_true rfl) ?_
  unfold f_X1_copyFrom
  refine pv_aload_n dX1_copyFrom_0 rfl ?_
  refine pv_getr dX1_copyFrom_1 fl_X1_9 hc0 rfl ?_
  refine pv_iconst (v := 0) dX1_copyFrom_4 (by decide) ?_
  refine pv_aload_n dX1_copyFrom_5 rfl ?_
  refine pv_getr dX1_copyFrom_6 fl_X1_9 hb0 rfl ?_
  refine pv_iconst (v := 0) dX1_copyFrom_9 (by decide) ?_
  refine pv_bipush (v := 8) dX1_copyFrom_10 (by decide) ?_
  refine pv_copy (N := 8) dX1_copyFrom_12 ac_X1_18.1 ac_X1_18.2.1 ac_X1_18.2.2.1 ac_X1_18.2.2.2 hc1 hb1 (by decide) rfl (Nat.le_of_ble_eq_true rfl) (Nat.le_of_ble_eq_true rfl) (Nat.le_of_ble_eq_true rfl) (Nat.le_of_ble_eq_true rfl) ?_
  refine pv_letM (fun m1 => ?_)
  refine pv_aload_n dX1_copyFrom_15 rfl ?_
  refine pv_getr dX1_copyFrom_16 fl_X1_15 hc0 rfl ?_
  refine pv_iconst (v := 0) dX1_copyFrom_19 (by decide) ?_
  refine pv_aload_n dX1_copyFrom_20 rfl ?_
  refine pv_getr dX1_copyFrom_21 fl_X1_15 hb0 rfl ?_
  refine pv_iconst (v := 0) dX1_copyFrom_24 (by decide) ?_
  refine pv_bipush (v := 32) dX1_copyFrom_25 (by decide) ?_
  refine pv_copy (N := 32) dX1_copyFrom_27 ac_X1_18.1 ac_X1_18.2.1 ac_X1_18.2.2.1 ac_X1_18.2.2.2 hc2 hb2 (by decide) rfl (Nat.le_of_ble_eq_true rfl) (Nat.le_of_ble_eq_true rfl) (Nat.le_of_ble_eq_true rfl) (Nat.le_of_ble_eq_true rfl) ?_
  refine pv_letM (fun m2 => ?_)
  exact pv_vret dX1_copyFrom_30 rfl rfl
def f_X1_isRow_b21  (v21 : (Int32 × Int32 × Int32)) (T21 : ((Int32 × Int32 × Int32) → Option Int32)) (E21 : (Int32 → Option Int32)) : Option Int32 :=
  (if (4 : Int32) ≤ v21.2.2 then (E21 v21.1) else pm_let (v21.1 ||| ((1 : Int32) <<< ((pm_rem v21.2.1 (10 : Int32)) &&& 31))) (fun x1 => pm_let (v21.2.1 / (10 : Int32)) (fun x2 => (T21 (x1, x2, (v21.2.2 + 1))))))
def f_X1_isRow (p0 : Int32) : Option Int32 :=
  (if p0 < (123 : Int32) then (some (0 : Int32)) else (if p0 ≤ (3210 : Int32) then (pm_it f_X1_isRow_b21 5000 ((0 : Int32), p0, (0 : Int32)) (fun e21 => (if e21 = (15 : Int32) then (some (1 : Int32)) else (some (0 : Int32))))) else (some (0 : Int32))))
abbrev rm_X1_isRow : Room := { frames := 0, cells := 0, slots := 0, locals := 0 }
set_option maxRecDepth 20000 in
set_option maxHeartbeats 2000000 in
theorem k_X1_isRow (l : Launch) (sh : pm_S) (p0 : Int32) (μ : pm_M) : pm_Ok l yX1_isRow cX1_isRow 4 (some .boolean) rm_X1_isRow [.int p0] sh false sh 0 0 (fun r => (some (.int r), μ)) μ (f_X1_isRow p0) := by
  refine pm_enter (own := RX1) (by decide) rfl (fun h => by cases h) (ls := [some (.int p0), none, none, none]) rfl (fun _ => Nat.le_of_ble_eq_true rfl) ?_
  unfold f_X1_isRow
  refine pv_iload_n dX1_isRow_0 rfl ?_
  refine pv_bipush (v := 123) dX1_isRow_1 (by decide) ?_
  refine pv_icmp_lt (tgt := 13) dX1_isRow_3 (by decide) ?_ ?_
  · refine pv_iconst (v := 0) dX1_isRow_13 (by decide) ?_
    exact pv_iret dX1_isRow_14 rfl rfl rfl
  · refine pv_iload_n dX1_isRow_6 rfl ?_
    refine pv_sipush (v := 3210) dX1_isRow_7 (by decide) ?_
    refine pv_icmp_le (tgt := 15) dX1_isRow_10 (by decide) ?_ ?_
    · refine pv_iconst (v := 0) dX1_isRow_15 (by decide) ?_
      refine pv_istore_n (ls' := [some (.int p0), some (.int (0 : Int32)), none, none]) dX1_isRow_16 (Nat.le_of_ble_eq_true rfl) rfl ?_
      refine pv_iload_n dX1_isRow_17 rfl ?_
      refine pv_istore_n (ls' := [some (.int p0), some (.int (0 : Int32)), some (.int p0), none]) dX1_isRow_18 (Nat.le_of_ble_eq_true rfl) rfl ?_
      refine pv_iconst (v := 0) dX1_isRow_19 (by decide) ?_
      refine pv_istore_n (ls' := [some (.int p0), some (.int (0 : Int32)), some (.int p0), some (.int (0 : Int32))]) dX1_isRow_20 (Nat.le_of_ble_eq_true rfl) rfl ?_
      refine pv_mask (ls' := [none, some (.int (0 : Int32)), some (.int p0), some (.int (0 : Int32))]) [false, true, true, true] rfl ?_
      refine pv_loop (body := f_X1_isRow_b21) (pcE := 46) (lsf := fun v21 => [none, some (.int v21.1), some (.int v21.2.1), some (.int v21.2.2)]) (mf := fun v21 => μ) (lsE := fun e21 => [none, some (.int e21), none, none]) (mE := fun e21 => μ) (fun e21 => ?_) (fun E21 hE21 T21 hT21 v21 => ?_) 5000 ((0 : Int32), p0, (0 : Int32))
      · refine pv_iload_n dX1_isRow_46 rfl ?_
        refine pv_bipush (v := 15) dX1_isRow_47 (by decide) ?_
        refine pv_icmp_ne (tgt := 56) dX1_isRow_49 (by decide) ?_ ?_
        · refine pv_iconst (v := 0) dX1_isRow_56 (by decide) ?_
          exact pv_iret dX1_isRow_57 rfl rfl rfl
        · refine pv_iconst (v := 1) dX1_isRow_52 (by decide) ?_
          refine pv_goto (tgt := 57) dX1_isRow_53 (by decide) ?_
          exact pv_iret dX1_isRow_57 rfl rfl rfl
      · unfold f_X1_isRow_b21
        refine pv_iload_n dX1_isRow_21 rfl ?_
        refine pv_iconst (v := 4) dX1_isRow_22 (by decide) ?_
        refine pv_icmp_ge (tgt := 46) dX1_isRow_23 (by decide) ?_ ?_
        · refine pv_mask (ls' := [none, some (.int v21.1), none, none]) [false, true, false, false] rfl ?_
          exact hE21 v21.1
        · refine pv_iload_n dX1_isRow_26 rfl ?_
          refine pv_iconst (v := 1) dX1_isRow_27 (by decide) ?_
          refine pv_iload_n dX1_isRow_28 rfl ?_
          refine pv_bipush (v := 10) dX1_isRow_29 (by decide) ?_
          refine pv_irem dX1_isRow_31 (by decide) ?_
          refine pv_ishl dX1_isRow_32 ?_
          refine pv_ior dX1_isRow_33 ?_
          refine pv_let (fun x1 => ?_)
          refine pv_istore_n (ls' := [none, some (.int x1), some (.int v21.2.1), some (.int v21.2.2)]) dX1_isRow_34 (Nat.le_of_ble_eq_true rfl) rfl ?_
          refine pv_iload_n dX1_isRow_35 rfl ?_
          refine pv_bipush (v := 10) dX1_isRow_36 (by decide) ?_
          refine pv_idiv dX1_isRow_38 (by decide) ?_
          refine pv_let (fun x2 => ?_)
          refine pv_istore_n (ls' := [none, some (.int x1), some (.int x2), some (.int v21.2.2)]) dX1_isRow_39 (Nat.le_of_ble_eq_true rfl) rfl ?_
          refine pv_iinc (v := (v21.2.2 + 1)) (ls' := [none, some (.int x1), some (.int x2), some (.int (v21.2.2 + 1))]) dX1_isRow_40 rfl rfl (Nat.le_of_ble_eq_true rfl) rfl ?_
          refine pv_goto (tgt := 21) dX1_isRow_43 (by decide) ?_
          exact hT21 (x1, x2, (v21.2.2 + 1))
    · refine pv_iconst (v := 0) dX1_isRow_13 (by decide) ?_
      exact pv_iret dX1_isRow_14 rfl rfl rfl
def f_X1_rowOf (b : Nat) (p1 : Int32) (p2 : Int32) (μ : pm_M) : Option Int32 :=
  (f_X9_isOne p1 p2).bind (fun r1 => (if r1 = 0 then (some (123 : Int32)) else pm_ck (((4 : Int32) * p1) + p2) 8 ((some (μ (b + 1) (Int32.toNatClampNeg (((4 : Int32) * p1) + p2)))))))
abbrev rm_X1_rowOf : Room := { frames := 2, cells := 0, slots := 0, locals := 41 }
set_option maxRecDepth 20000 in
set_option maxHeartbeats 2000000 in
theorem k_X1_rowOf (l : Launch) (sh : pm_S) (b : Nat) (hb : is_X1 sh b) (p1 : Int32) (p2 : Int32) (μ : pm_M) : pm_Ok l yX1_rowOf cX1_rowOf 3 (some .int) rm_X1_rowOf [.ref b, .int p1, .int p2] sh false sh 0 0 (fun r => (some (.int r), μ)) μ (f_X1_rowOf b p1 p2 μ) := by
  obtain ⟨hb0, hb1, hb2⟩ := id hb
  refine pm_enter (own := RX1) (by decide) rfl (fun h => by cases h) (ls := [some (.ref b), some (.int p1), some (.int p2)]) rfl (fun _ => Nat.le_of_ble_eq_true rfl) ?_
  unfold f_X1_rowOf
  refine pv_iload_n dX1_rowOf_0 rfl ?_
  refine pv_iload_n dX1_rowOf_1 rfl ?_
  refine pv_cs_ri (rest := []) dX1_rowOf_2 my_X9_isOne sl_X1_24 (k_X9_isOne l sh p1 p2 μ) rfl ⟨rfl, rfl, Nat.le_of_ble_eq_true rfl, Nat.le_of_ble_eq_true rfl⟩ ⟨Nat.zero_le _, Nat.zero_le _⟩ (Nat.le_of_ble_eq_true rfl) rfl (fun r1 => ?_)
  refine pv_if_eq (tgt := 21) dX1_rowOf_5 (by decide) ?_ ?_
  · refine pv_bipush (v := 123) dX1_rowOf_21 (by decide) ?_
    exact pv_iret dX1_rowOf_23 rfl rfl rfl
  · refine pv_aload_n dX1_rowOf_8 rfl ?_
    refine pv_getr dX1_rowOf_9 fl_X1_9 hb0 rfl ?_
    refine pv_iconst (v := 4) dX1_rowOf_12 (by decide) ?_
    refine pv_iload_n dX1_rowOf_13 rfl ?_
    refine pv_imul dX1_rowOf_14 ?_
    refine pv_iload_n dX1_rowOf_15 rfl ?_
    refine pv_iadd dX1_rowOf_16 ?_
    refine pv_iald dX1_rowOf_17 hb1 ?_
    refine pv_goto (tgt := 23) dX1_rowOf_18 (by decide) ?_
    exact pv_iret dX1_rowOf_23 rfl rfl rfl
def f_X1_setRank (b : Nat) (p1 : Int32) (p2 : Int32) (p3 : Int32) (p4 : Int32) (μ : pm_M) : Option pm_M :=
  (f_X9_isOne p1 p2).bind (fun r1 => (if r1 = 0 then (some μ) else (f_X9_isOne p1 p3).bind (fun r2 => (if r2 = 0 then (some μ) else pm_ck ((((16 : Int32) * p1) + ((4 : Int32) * p2)) + p3) 32 (pm_let (pm_up μ (b + 2) (Int32.toNatClampNeg ((((16 : Int32) * p1) + ((4 : Int32) * p2)) + p3)) p4) (fun m3 => (some m3)))))))
abbrev rm_X1_setRank : Room := { frames := 2, cells := 0, slots := 0, locals := 41 }
set_option maxRecDepth 20000 in
set_option maxHeartbeats 2000000 in
theorem k_X1_setRank (l : Launch) (sh : pm_S) (b : Nat) (hb : is_X1 sh b) (p1 : Int32) (p2 : Int32) (p3 : Int32) (p4 : Int32) (μ : pm_M) : pm_Ok l yX1_setRank cX1_setRank 5 none rm_X1_setRank [.ref b, .int p1, .int p2, .int p3, .int p4] sh false sh 0 0 (fun r => (none, r)) μ (f_X1_setRank b p1 p2 p3 p4 μ) := by
  obtain ⟨hb0, hb1, hb2⟩ := id hb
  refine pm_enter (own := RX1) (by decide) rfl (fun h => by cases h) (ls := [some (.ref b), some (.int p1), some (.int p2), some (.int p3), some (.int p4)]) rfl (fun _ => Nat.le_of_ble_eq_true rfl) ?_
  unfold f_X1_setRank
  refine pv_iload_n dX1_setRank_0 rfl ?_
  refine pv_iload_n dX1_setRank_1 rfl ?_
  refine pv_cs_ri (rest := []) dX1_setRank_2 my_X9_isOne sl_X1_24 (k_X9_isOne l sh p1 p2 μ) rfl ⟨rfl, rfl, Nat.le_of_ble_eq_true rfl, Nat.le_of_ble_eq_true rfl⟩ ⟨Nat.zero_le _, Nat.zero_le _⟩ (Nat.le_of_ble_eq_true rfl) rfl (fun r1 => ?_)
  refine pv_if_eq (tgt := 33) dX1_setRank_5 (by decide) ?_ ?_
  · exact pv_vret dX1_setRank_33 rfl rfl
  · refine pv_iload_n dX1_setRank_8 rfl ?_
    refine pv_iload_n dX1_setRank_9 rfl ?_
    refine pv_cs_ri (rest := []) dX1_setRank_10 my_X9_isOne sl_X1_24 (k_X9_isOne l sh p1 p3 μ) rfl ⟨rfl, rfl, Nat.le_of_ble_eq_true rfl, Nat.le_of_ble_eq_true rfl⟩ ⟨Nat.zero_le _, Nat.zero_le _⟩ (Nat.le_of_ble_eq_true rfl) rfl (fun r2 => ?_)
    refine pv_if_eq (tgt := 33) dX1_setRank_13 (by decide) ?_ ?_
    · exact pv_vret dX1_setRank_33 rfl rfl
    · refine pv_aload_n dX1_setRank_16 rfl ?_
      refine pv_getr dX1_setRank_17 fl_X1_15 hb0 rfl ?_
      refine pv_bipush (v := 16) dX1_setRank_20 (by decide) ?_
      refine pv_iload_n dX1_setRank_22 rfl ?_
      refine pv_imul dX1_setRank_23 ?_
      refine pv_iconst (v := 4) dX1_setRank_24 (by decide) ?_
      refine pv_iload_n dX1_setRank_25 rfl ?_
      refine pv_imul dX1_setRank_26 ?_
      refine pv_iadd dX1_setRank_27 ?_
      refine pv_iload_n dX1_setRank_28 rfl ?_
      refine pv_iadd dX1_setRank_29 ?_
      refine pv_iload dX1_setRank_30 rfl ?_
      refine pv_iast dX1_setRank_32 hb2 ?_
      refine pv_letM (fun m3 => ?_)
      exact pv_vret dX1_setRank_33 rfl rfl
def f_X1_setRow_b33 (b : Nat) (p1 : Int32) (p2 : Int32) (v33 : (Int32 × Int32 × pm_M)) (T33 : ((Int32 × Int32 × pm_M) → Option pm_M)) (E33 : (pm_M → Option pm_M)) : Option pm_M :=
  (if v33.2.1 < 0 then (E33 v33.2.2) else (f_X1_setRank b p1 p2 (pm_rem v33.1 (10 : Int32)) v33.2.1 v33.2.2).bind (fun m4 => pm_let (v33.1 / (10 : Int32)) (fun x5 => (T33 (x5, (v33.2.1 + (-1)), m4)))))
def f_X1_setRow (b : Nat) (p1 : Int32) (p2 : Int32) (p3 : Int32) (μ : pm_M) : Option pm_M :=
  (f_X9_isOne p1 p2).bind (fun r1 => (if r1 = 0 then (some μ) else (f_X1_isRow p3).bind (fun r2 => (if r2 = 0 then (some μ) else pm_ck (((4 : Int32) * p1) + p2) 8 (pm_let (pm_up μ (b + 1) (Int32.toNatClampNeg (((4 : Int32) * p1) + p2)) p3) (fun m3 => (pm_it (f_X1_setRow_b33 b p1 p2) 5000 (p3, (3 : Int32), m3) (fun e33 => (some e33)))))))))
abbrev rm_X1_setRow : Room := { frames := 3, cells := 0, slots := 0, locals := 65 }
set_option maxRecDepth 20000 in
set_option maxHeartbeats 2000000 in
theorem k_X1_setRow (l : Launch) (sh : pm_S) (b : Nat) (hb : is_X1 sh b) (p1 : Int32) (p2 : Int32) (p3 : Int32) (μ : pm_M) : pm_Ok l yX1_setRow cX1_setRow 6 none rm_X1_setRow [.ref b, .int p1, .int p2, .int p3] sh false sh 0 0 (fun r => (none, r)) μ (f_X1_setRow b p1 p2 p3 μ) := by
  obtain ⟨hb0, hb1, hb2⟩ := id hb
  refine pm_enter (own := RX1) (by decide) rfl (fun h => by cases h) (ls := [some (.ref b), some (.int p1), some (.int p2), some (.int p3), none, none]) rfl (fun _ => Nat.le_of_ble_eq_true rfl) ?_
  unfold f_X1_setRow
  refine pv_iload_n dX1_setRow_0 rfl ?_
  refine pv_iload_n dX1_setRow_1 rfl ?_
  refine pv_cs_ri (rest := []) dX1_setRow_2 my_X9_isOne sl_X1_24 (k_X9_isOne l sh p1 p2 μ) rfl ⟨rfl, rfl, Nat.le_of_ble_eq_true rfl, Nat.le_of_ble_eq_true rfl⟩ ⟨Nat.zero_le _, Nat.zero_le _⟩ (Nat.le_of_ble_eq_true rfl) rfl (fun r1 => ?_)
  refine pv_if_eq (tgt := 15) dX1_setRow_5 (by decide) ?_ ?_
  · exact pv_vret dX1_setRow_15 rfl rfl
  · refine pv_iload_n dX1_setRow_8 rfl ?_
    refine pv_cs_ri (rest := []) dX1_setRow_9 my_X1_isRow sl_X1_28 (k_X1_isRow l sh p3 μ) rfl ⟨rfl, rfl, Nat.le_of_ble_eq_true rfl, Nat.le_of_ble_eq_true rfl⟩ ⟨Nat.zero_le _, Nat.zero_le _⟩ (Nat.le_of_ble_eq_true rfl) rfl (fun r2 => ?_)
    refine pv_if_ne (tgt := 16) dX1_setRow_12 (by decide) ?_ ?_
    · refine pv_aload_n dX1_setRow_16 rfl ?_
      refine pv_getr dX1_setRow_17 fl_X1_9 hb0 rfl ?_
      refine pv_iconst (v := 4) dX1_setRow_20 (by decide) ?_
      refine pv_iload_n dX1_setRow_21 rfl ?_
      refine pv_imul dX1_setRow_22 ?_
      refine pv_iload_n dX1_setRow_23 rfl ?_
      refine pv_iadd dX1_setRow_24 ?_
      refine pv_iload_n dX1_setRow_25 rfl ?_
      refine pv_iast dX1_setRow_26 hb1 ?_
      refine pv_letM (fun m3 => ?_)
      refine pv_iload_n dX1_setRow_27 rfl ?_
      refine pv_istore (ls' := [some (.ref b), some (.int p1), some (.int p2), some (.int p3), some (.int p3), none]) dX1_setRow_28 (Nat.le_of_ble_eq_true rfl) rfl ?_
      refine pv_iconst (v := 3) dX1_setRow_30 (by decide) ?_
      refine pv_istore (ls' := [some (.ref b), some (.int p1), some (.int p2), some (.int p3), some (.int p3), some (.int (3 : Int32))]) dX1_setRow_31 (Nat.le_of_ble_eq_true rfl) rfl ?_
      refine pv_mask (ls' := [some (.ref b), some (.int p1), some (.int p2), none, some (.int p3), some (.int (3 : Int32))]) [true, true, true, false, true, true] rfl ?_
      refine pv_loop (body := (f_X1_setRow_b33 b p1 p2)) (pcE := 64) (lsf := fun v33 => [some (.ref b), some (.int p1), some (.int p2), none, some (.int v33.1), some (.int v33.2.1)]) (mf := fun v33 => v33.2.2) (lsE := fun e33 => [none, none, none, none, none, none]) (mE := fun e33 => e33) (fun e33 => ?_) (fun E33 hE33 T33 hT33 v33 => ?_) 5000 (p3, (3 : Int32), m3)
      · exact pv_vret dX1_setRow_64 rfl rfl
      · unfold f_X1_setRow_b33
        refine pv_iload dX1_setRow_33 rfl ?_
        refine pv_if_lt (tgt := 64) dX1_setRow_35 (by decide) ?_ ?_
        · refine pv_mask (ls' := [none, none, none, none, none, none]) [false, false, false, false, false, false] rfl ?_
          exact hE33 v33.2.2
        · refine pv_aload_n dX1_setRow_38 rfl ?_
          refine pv_iload_n dX1_setRow_39 rfl ?_
          refine pv_iload_n dX1_setRow_40 rfl ?_
          refine pv_iload dX1_setRow_41 rfl ?_
          refine pv_bipush (v := 10) dX1_setRow_43 (by decide) ?_
          refine pv_irem dX1_setRow_45 (by decide) ?_
          refine pv_iload dX1_setRow_46 rfl ?_
          refine pv_cv_wv (rest := []) dX1_setRow_48 my_X1_setRank vl_X1_32 (k_X1_setRank l sh b hb p1 p2 (pm_rem v33.1 (10 : Int32)) v33.2.1 v33.2.2) hb0 rfl rfl ⟨rfl, rfl, Nat.le_of_ble_eq_true rfl, Nat.le_of_ble_eq_true rfl⟩ ⟨Nat.zero_le _, Nat.zero_le _⟩ (Nat.le_of_ble_eq_true rfl) rfl (fun m4 => ?_)
          refine pv_iload dX1_setRow_51 rfl ?_
          refine pv_bipush (v := 10) dX1_setRow_53 (by decide) ?_
          refine pv_idiv dX1_setRow_55 (by decide) ?_
          refine pv_let (fun x5 => ?_)
          refine pv_istore (ls' := [some (.ref b), some (.int p1), some (.int p2), none, some (.int x5), some (.int v33.2.1)]) dX1_setRow_56 (Nat.le_of_ble_eq_true rfl) rfl ?_
          refine pv_iinc (v := (v33.2.1 + (-1))) (ls' := [some (.ref b), some (.int p1), some (.int p2), none, some (.int x5), some (.int (v33.2.1 + (-1)))]) dX1_setRow_58 rfl rfl (Nat.le_of_ble_eq_true rfl) rfl ?_
          refine pv_goto (tgt := 33) dX1_setRow_61 (by decide) ?_
          exact hT33 (x5, (v33.2.1 + (-1)), m4)
    · exact pv_vret dX1_setRow_15 rfl rfl
def f_X1_rankOf (b : Nat) (p1 : Int32) (p2 : Int32) (p3 : Int32) (μ : pm_M) : Option Int32 :=
  (f_X9_isOne p1 p2).bind (fun r1 => (if r1 = 0 then (some (4 : Int32)) else (f_X9_isOne p1 p3).bind (fun r2 => (if r2 = 0 then (some (4 : Int32)) else pm_let ((((16 : Int32) * p1) + ((4 : Int32) * p2)) + p3) (fun x3 => pm_ck x3 32 ((some (μ (b + 2) (Int32.toNatClampNeg x3)))))))))
abbrev rm_X1_rankOf : Room := { frames := 2, cells := 0, slots := 0, locals := 41 }
set_option maxRecDepth 20000 in
set_option maxHeartbeats 2000000 in
theorem k_X1_rankOf (l : Launch) (sh : pm_S) (b : Nat) (hb : is_X1 sh b) (p1 : Int32) (p2 : Int32) (p3 : Int32) (μ : pm_M) : pm_Ok l yX1_rankOf cX1_rankOf 4 (some .int) rm_X1_rankOf [.ref b, .int p1, .int p2, .int p3] sh false sh 0 0 (fun r => (some (.int r), μ)) μ (f_X1_rankOf b p1 p2 p3 μ) := by
  obtain ⟨hb0, hb1, hb2⟩ := id hb
  refine pm_enter (own := RX1) (by decide) rfl (fun h => by cases h) (ls := [some (.ref b), some (.int p1), some (.int p2), some (.int p3)]) rfl (fun _ => Nat.le_of_ble_eq_true rfl) ?_
  unfold f_X1_rankOf
  refine pv_iload_n dX1_rankOf_0 rfl ?_
  refine pv_iload_n dX1_rankOf_1 rfl ?_
  refine pv_cs_ri (rest := []) dX1_rankOf_2 my_X9_isOne sl_X1_24 (k_X9_isOne l sh p1 p2 μ) rfl ⟨rfl, rfl, Nat.le_of_ble_eq_true rfl, Nat.le_of_ble_eq_true rfl⟩ ⟨Nat.zero_le _, Nat.zero_le _⟩ (Nat.le_of_ble_eq_true rfl) rfl (fun r1 => ?_)
  refine pv_if_eq (tgt := 34) dX1_rankOf_5 (by decide) ?_ ?_
  · refine pv_iconst (v := 4) dX1_rankOf_34 (by decide) ?_
    exact pv_iret dX1_rankOf_35 rfl rfl rfl
  · refine pv_iload_n dX1_rankOf_8 rfl ?_
    refine pv_iload_n dX1_rankOf_9 rfl ?_
    refine pv_cs_ri (rest := []) dX1_rankOf_10 my_X9_isOne sl_X1_24 (k_X9_isOne l sh p1 p3 μ) rfl ⟨rfl, rfl, Nat.le_of_ble_eq_true rfl, Nat.le_of_ble_eq_true rfl⟩ ⟨Nat.zero_le _, Nat.zero_le _⟩ (Nat.le_of_ble_eq_true rfl) rfl (fun r2 => ?_)
    refine pv_if_eq (tgt := 34) dX1_rankOf_13 (by decide) ?_ ?_
    · refine pv_iconst (v := 4) dX1_rankOf_34 (by decide) ?_
      exact pv_iret dX1_rankOf_35 rfl rfl rfl
    · refine pv_aload_n dX1_rankOf_16 rfl ?_
      refine pv_getr dX1_rankOf_17 fl_X1_15 hb0 rfl ?_
      refine pv_bipush (v := 16) dX1_rankOf_20 (by decide) ?_
      refine pv_iload_n dX1_rankOf_22 rfl ?_
      refine pv_imul dX1_rankOf_23 ?_
      refine pv_iconst (v := 4) dX1_rankOf_24 (by decide) ?_
      refine pv_iload_n dX1_rankOf_25 rfl ?_
      refine pv_imul dX1_rankOf_26 ?_
      refine pv_iadd dX1_rankOf_27 ?_
      refine pv_iload_n dX1_rankOf_28 rfl ?_
      refine pv_iadd dX1_rankOf_29 ?_
      refine pv_let (fun x3 => ?_)
      refine pv_iald dX1_rankOf_30 hb2 ?_
      refine pv_goto (tgt := 35) dX1_rankOf_31 (by decide) ?_
      exact pv_iret dX1_rankOf_35 rfl rfl rfl
def f_X1_chosenBy (p0 : Int32) (p1 : Int32) : Option Int32 :=
  (some ((p0 >>> (((2 : Int32) * p1) &&& 31)) &&& (3 : Int32)))
abbrev rm_X1_chosenBy : Room := { frames := 0, cells := 0, slots := 0, locals := 0 }
set_option maxRecDepth 20000 in
set_option maxHeartbeats 2000000 in
theorem k_X1_chosenBy (l : Launch) (sh : pm_S) (p0 : Int32) (p1 : Int32) (μ : pm_M) : pm_Ok l yX1_chosenBy cX1_chosenBy 2 (some .int) rm_X1_chosenBy [.int p0, .int p1] sh false sh 0 0 (fun r => (some (.int r), μ)) μ (f_X1_chosenBy p0 p1) := by
  refine pm_enter (own := RX1) (by decide) rfl (fun h => by cases h) (ls := [some (.int p0), some (.int p1)]) rfl (fun _ => Nat.le_of_ble_eq_true rfl) ?_
  unfold f_X1_chosenBy
  refine pv_iload_n dX1_chosenBy_0 rfl ?_
  refine pv_iconst (v := 2) dX1_chosenBy_1 (by decide) ?_
  refine pv_iload_n dX1_chosenBy_2 rfl ?_
  refine pv_imul dX1_chosenBy_3 ?_
  refine pv_ishr dX1_chosenBy_4 ?_
  refine pv_iconst (v := 3) dX1_chosenBy_5 (by decide) ?_
  refine pv_iand dX1_chosenBy_6 ?_
  exact pv_iret dX1_chosenBy_7 rfl rfl rfl
def f_X1_partnerIn_b12 (p0 : Int32) (p2 : Int32) (v12 : Int32) (T12 : (Int32 → Option Int32)) (E12 : (Unit → Option Int32)) : Option Int32 :=
  (if (4 : Int32) ≤ v12 then (E12 ()) else (f_X1_chosenBy p0 v12).bind (fun r1 => (if r1 = p2 then (some v12) else (T12 (v12 + 1)))))
def f_X1_partnerIn (p0 : Int32) (p1 : Int32) (p2 : Int32) : Option Int32 :=
  (if p1 = 0 then (f_X1_chosenBy p0 p2).bind (fun r2 => (some r2)) else (pm_it (f_X1_partnerIn_b12 p0 p2) 5000 (0 : Int32) (fun e12 => (some (-6 : Int32)))))
abbrev rm_X1_partnerIn : Room := { frames := 1, cells := 0, slots := 0, locals := 21 }
set_option maxRecDepth 20000 in
set_option maxHeartbeats 2000000 in
theorem k_X1_partnerIn (l : Launch) (sh : pm_S) (p0 : Int32) (p1 : Int32) (p2 : Int32) (μ : pm_M) : pm_Ok l yX1_partnerIn cX1_partnerIn 4 (some .int) rm_X1_partnerIn [.int p0, .int p1, .int p2] sh false sh 0 0 (fun r => (some (.int r), μ)) μ (f_X1_partnerIn p0 p1 p2) := by
  refine pm_enter (own := RX1) (by decide) rfl (fun h => by cases h) (ls := [some (.int p0), some (.int p1), some (.int p2), none]) rfl (fun _ => Nat.le_of_ble_eq_true rfl) ?_
  unfold f_X1_partnerIn
  refine pv_iload_n dX1_partnerIn_0 rfl ?_
  refine pv_if_ne (tgt := 10) dX1_partnerIn_1 (by decide) ?_ ?_
  · refine pv_iconst (v := 0) dX1_partnerIn_10 (by decide) ?_
    refine pv_istore_n (ls' := [some (.int p0), some (.int p1), some (.int p2), some (.int (0 : Int32))]) dX1_partnerIn_11 (Nat.le_of_ble_eq_true rfl) rfl ?_
    refine pv_mask (ls' := [some (.int p0), none, some (.int p2), some (.int (0 : Int32))]) [true, false, true, true] rfl ?_
    refine pv_loop (body := (f_X1_partnerIn_b12 p0 p2)) (pcE := 34) (lsf := fun v12 => [some (.int p0), none, some (.int p2), some (.int v12)]) (mf := fun v12 => μ) (lsE := fun e12 => [none, none, none, none]) (mE := fun e12 => μ) (fun e12 => ?_) (fun E12 hE12 T12 hT12 v12 => ?_) 5000 (0 : Int32)
    · refine pv_bipush (v := (-6)) dX1_partnerIn_34 (by decide) ?_
      exact pv_iret dX1_partnerIn_36 rfl rfl rfl
    · unfold f_X1_partnerIn_b12
      refine pv_iload_n dX1_partnerIn_12 rfl ?_
      refine pv_iconst (v := 4) dX1_partnerIn_13 (by decide) ?_
      refine pv_icmp_ge (tgt := 34) dX1_partnerIn_14 (by decide) ?_ ?_
      · refine pv_mask (ls' := [none, none, none, none]) [false, false, false, false] rfl ?_
        exact hE12 ()
      · refine pv_iload_n dX1_partnerIn_17 rfl ?_
        refine pv_iload_n dX1_partnerIn_18 rfl ?_
        refine pv_cs_ri (rest := []) dX1_partnerIn_19 my_X1_chosenBy sl_X1_36 (k_X1_chosenBy l sh p0 v12 μ) rfl ⟨rfl, rfl, Nat.le_of_ble_eq_true rfl, Nat.le_of_ble_eq_true rfl⟩ ⟨Nat.zero_le _, Nat.zero_le _⟩ (Nat.le_of_ble_eq_true rfl) rfl (fun r1 => ?_)
        refine pv_iload_n dX1_partnerIn_22 rfl ?_
        refine pv_icmp_ne (tgt := 28) dX1_partnerIn_23 (by decide) ?_ ?_
        · refine pv_iinc (v := (v12 + 1)) (ls' := [some (.int p0), none, some (.int p2), some (.int (v12 + 1))]) dX1_partnerIn_28 rfl rfl (Nat.le_of_ble_eq_true rfl) rfl ?_
          refine pv_goto (tgt := 12) dX1_partnerIn_31 (by decide) ?_
          exact hT12 (v12 + 1)
        · refine pv_iload_n dX1_partnerIn_26 rfl ?_
          exact pv_iret dX1_partnerIn_27 rfl rfl rfl
  · refine pv_iload_n dX1_partnerIn_4 rfl ?_
    refine pv_iload_n dX1_partnerIn_5 rfl ?_
    refine pv_cs_ri (rest := []) dX1_partnerIn_6 my_X1_chosenBy sl_X1_36 (k_X1_chosenBy l sh p0 p2 μ) rfl ⟨rfl, rfl, Nat.le_of_ble_eq_true rfl, Nat.le_of_ble_eq_true rfl⟩ ⟨Nat.zero_le _, Nat.zero_le _⟩ (Nat.le_of_ble_eq_true rfl) rfl (fun r2 => ?_)
    exact pv_iret dX1_partnerIn_9 rfl rfl rfl
def f_X1_hasEachOnce_b4 (p0 : Int32) (v4 : (Int32 × Int32)) (T4 : ((Int32 × Int32) → Option Int32)) (E4 : (Int32 → Option Int32)) : Option Int32 :=
  (if (4 : Int32) ≤ v4.2 then (E4 v4.1) else (f_X1_chosenBy p0 v4.2).bind (fun r1 => pm_let (v4.1 ||| ((1 : Int32) <<< (r1 &&& 31))) (fun x2 => (T4 (x2, (v4.2 + 1))))))
def f_X1_hasEachOnce (p0 : Int32) : Option Int32 :=
  (pm_it (f_X1_hasEachOnce_b4 p0) 5000 ((0 : Int32), (0 : Int32)) (fun e4 => (if e4 = (15 : Int32) then (some (1 : Int32)) else (some (0 : Int32)))))
abbrev rm_X1_hasEachOnce : Room := { frames := 1, cells := 0, slots := 0, locals := 21 }
set_option maxRecDepth 20000 in
set_option maxHeartbeats 2000000 in
theorem k_X1_hasEachOnce (l : Launch) (sh : pm_S) (p0 : Int32) (μ : pm_M) : pm_Ok l yX1_hasEachOnce cX1_hasEachOnce 3 (some .boolean) rm_X1_hasEachOnce [.int p0] sh false sh 0 0 (fun r => (some (.int r), μ)) μ (f_X1_hasEachOnce p0) := by
  refine pm_enter (own := RX1) (by decide) rfl (fun h => by cases h) (ls := [some (.int p0), none, none]) rfl (fun _ => Nat.le_of_ble_eq_true rfl) ?_
  unfold f_X1_hasEachOnce
  refine pv_iconst (v := 0) dX1_hasEachOnce_0 (by decide) ?_
  refine pv_istore_n (ls' := [some (.int p0), some (.int (0 : Int32)), none]) dX1_hasEachOnce_1 (Nat.le_of_ble_eq_true rfl) rfl ?_
  refine pv_iconst (v := 0) dX1_hasEachOnce_2 (by decide) ?_
  refine pv_istore_n (ls' := [some (.int p0), some (.int (0 : Int32)), some (.int (0 : Int32))]) dX1_hasEachOnce_3 (Nat.le_of_ble_eq_true rfl) rfl ?_
  refine pv_loop (body := (f_X1_hasEachOnce_b4 p0)) (pcE := 25) (lsf := fun v4 => [some (.int p0), some (.int v4.1), some (.int v4.2)]) (mf := fun v4 => μ) (lsE := fun e4 => [none, some (.int e4), none]) (mE := fun e4 => μ) (fun e4 => ?_) (fun E4 hE4 T4 hT4 v4 => ?_) 5000 ((0 : Int32), (0 : Int32))
  · refine pv_iload_n dX1_hasEachOnce_25 rfl ?_
    refine pv_bipush (v := 15) dX1_hasEachOnce_26 (by decide) ?_
    refine pv_icmp_ne (tgt := 35) dX1_hasEachOnce_28 (by decide) ?_ ?_
    · refine pv_iconst (v := 0) dX1_hasEachOnce_35 (by decide) ?_
      exact pv_iret dX1_hasEachOnce_36 rfl rfl rfl
    · refine pv_iconst (v := 1) dX1_hasEachOnce_31 (by decide) ?_
      refine pv_goto (tgt := 36) dX1_hasEachOnce_32 (by decide) ?_
      exact pv_iret dX1_hasEachOnce_36 rfl rfl rfl
  · unfold f_X1_hasEachOnce_b4
    refine pv_iload_n dX1_hasEachOnce_4 rfl ?_
    refine pv_iconst (v := 4) dX1_hasEachOnce_5 (by decide) ?_
    refine pv_icmp_ge (tgt := 25) dX1_hasEachOnce_6 (by decide) ?_ ?_
    · refine pv_mask (ls' := [none, some (.int v4.1), none]) [false, true, false] rfl ?_
      exact hE4 v4.1
    · refine pv_iload_n dX1_hasEachOnce_9 rfl ?_
      refine pv_iconst (v := 1) dX1_hasEachOnce_10 (by decide) ?_
      refine pv_iload_n dX1_hasEachOnce_11 rfl ?_
      refine pv_iload_n dX1_hasEachOnce_12 rfl ?_
      refine pv_cs_ri (rest := [.int (1 : Int32), .int v4.1]) dX1_hasEachOnce_13 my_X1_chosenBy sl_X1_36 (k_X1_chosenBy l sh p0 v4.2 μ) rfl ⟨rfl, rfl, Nat.le_of_ble_eq_true rfl, Nat.le_of_ble_eq_true rfl⟩ ⟨Nat.zero_le _, Nat.zero_le _⟩ (Nat.le_of_ble_eq_true rfl) rfl (fun r1 => ?_)
      refine pv_ishl dX1_hasEachOnce_16 ?_
      refine pv_ior dX1_hasEachOnce_17 ?_
      refine pv_let (fun x2 => ?_)
      refine pv_istore_n (ls' := [some (.int p0), some (.int x2), some (.int v4.2)]) dX1_hasEachOnce_18 (Nat.le_of_ble_eq_true rfl) rfl ?_
      refine pv_iinc (v := (v4.2 + 1)) (ls' := [some (.int p0), some (.int x2), some (.int (v4.2 + 1))]) dX1_hasEachOnce_19 rfl rfl (Nat.le_of_ble_eq_true rfl) rfl ?_
      refine pv_goto (tgt := 4) dX1_hasEachOnce_22 (by decide) ?_
      exact hT4 (x2, (v4.2 + 1))
def f_X1_prefers (b : Nat) (p1 : Int32) (p2 : Int32) (p3 : Int32) (p4 : Int32) (μ : pm_M) : Option Int32 :=
  (f_X1_rankOf b p2 p3 p4 μ).bind (fun r1 => (f_X1_partnerIn p1 p2 p3).bind (fun r2 => (f_X1_rankOf b p2 p3 r2 μ).bind (fun r3 => (if r3 ≤ r1 then (some (0 : Int32)) else (some (1 : Int32))))))
abbrev rm_X1_prefers : Room := { frames := 3, cells := 0, slots := 0, locals := 64 }
set_option maxRecDepth 20000 in
set_option maxHeartbeats 2000000 in
theorem k_X1_prefers (l : Launch) (sh : pm_S) (b : Nat) (hb : is_X1 sh b) (p1 : Int32) (p2 : Int32) (p3 : Int32) (p4 : Int32) (μ : pm_M) : pm_Ok l yX1_prefers cX1_prefers 5 (some .boolean) rm_X1_prefers [.ref b, .int p1, .int p2, .int p3, .int p4] sh false sh 0 0 (fun r => (some (.int r), μ)) μ (f_X1_prefers b p1 p2 p3 p4 μ) := by
  obtain ⟨hb0, hb1, hb2⟩ := id hb
  refine pm_enter (own := RX1) (by decide) rfl (fun h => by cases h) (ls := [some (.ref b), some (.int p1), some (.int p2), some (.int p3), some (.int p4)]) rfl (fun _ => Nat.le_of_ble_eq_true rfl) ?_
  unfold f_X1_prefers
  refine pv_aload_n dX1_prefers_0 rfl ?_
  refine pv_iload_n dX1_prefers_1 rfl ?_
  refine pv_iload_n dX1_prefers_2 rfl ?_
  refine pv_iload dX1_prefers_3 rfl ?_
  refine pv_cv_ri (rest := []) dX1_prefers_5 my_X1_rankOf vl_X1_50 (k_X1_rankOf l sh b hb p2 p3 p4 μ) hb0 rfl rfl ⟨rfl, rfl, Nat.le_of_ble_eq_true rfl, Nat.le_of_ble_eq_true rfl⟩ ⟨Nat.zero_le _, Nat.zero_le _⟩ (Nat.le_of_ble_eq_true rfl) rfl (fun r1 => ?_)
  refine pv_aload_n dX1_prefers_8 rfl ?_
  refine pv_iload_n dX1_prefers_9 rfl ?_
  refine pv_iload_n dX1_prefers_10 rfl ?_
  refine pv_iload_n dX1_prefers_11 rfl ?_
  refine pv_iload_n dX1_prefers_12 rfl ?_
  refine pv_iload_n dX1_prefers_13 rfl ?_
  refine pv_cs_ri (rest := [.int p3, .int p2, .ref b, .int r1]) dX1_prefers_14 my_X1_partnerIn sl_X1_46 (k_X1_partnerIn l sh p1 p2 p3 μ) rfl ⟨rfl, rfl, Nat.le_of_ble_eq_true rfl, Nat.le_of_ble_eq_true rfl⟩ ⟨Nat.zero_le _, Nat.zero_le _⟩ (Nat.le_of_ble_eq_true rfl) rfl (fun r2 => ?_)
  refine pv_cv_ri (rest := [.int r1]) dX1_prefers_17 my_X1_rankOf vl_X1_50 (k_X1_rankOf l sh b hb p2 p3 r2 μ) hb0 rfl rfl ⟨rfl, rfl, Nat.le_of_ble_eq_true rfl, Nat.le_of_ble_eq_true rfl⟩ ⟨Nat.zero_le _, Nat.zero_le _⟩ (Nat.le_of_ble_eq_true rfl) rfl (fun r3 => ?_)
  refine pv_icmp_ge (tgt := 27) dX1_prefers_20 (by decide) ?_ ?_
  · refine pv_iconst (v := 0) dX1_prefers_27 (by decide) ?_
    exact pv_iret dX1_prefers_28 rfl rfl rfl
  · refine pv_iconst (v := 1) dX1_prefers_23 (by decide) ?_
    refine pv_goto (tgt := 28) dX1_prefers_24 (by decide) ?_
    exact pv_iret dX1_prefers_28 rfl rfl rfl
def f_X1_isSteady_b18 (b : Nat) (p1 : Int32) (μ : pm_M) (v11 : Int32) (v18 : Int32) (T18 : (Int32 → Option Int32)) (E18 : (Unit → Option Int32)) : Option Int32 :=
  (if (4 : Int32) ≤ v18 then (E18 ()) else (f_X1_prefers b p1 (0 : Int32) v11 v18 μ).bind (fun r2 => (pm_jn (fun (a3 : Unit) => (T18 (v18 + 1))) (fun j47 => (if r2 = 0 then (j47 ()) else (f_X1_prefers b p1 (1 : Int32) v18 v11 μ).bind (fun r4 => (if r4 = 0 then (j47 ()) else (some (0 : Int32)))))))))
def f_X1_isSteady_b11 (b : Nat) (p1 : Int32) (μ : pm_M) (v11 : Int32) (T11 : (Int32 → Option Int32)) (E11 : (Unit → Option Int32)) : Option Int32 :=
  (if (4 : Int32) ≤ v11 then (E11 ()) else (pm_it (f_X1_isSteady_b18 b p1 μ v11) 5000 (0 : Int32) (fun e18 => (T11 (v11 + 1)))))
def f_X1_isSteady (b : Nat) (p1 : Int32) (μ : pm_M) : Option Int32 :=
  (f_X1_hasEachOnce p1).bind (fun r1 => (if r1 = 0 then (some (0 : Int32)) else (pm_it (f_X1_isSteady_b11 b p1 μ) 5000 (0 : Int32) (fun e11 => (some (1 : Int32))))))
abbrev rm_X1_isSteady : Room := { frames := 4, cells := 0, slots := 0, locals := 88 }
set_option maxRecDepth 20000 in
set_option maxHeartbeats 2000000 in
theorem k_X1_isSteady (l : Launch) (sh : pm_S) (b : Nat) (hb : is_X1 sh b) (p1 : Int32) (μ : pm_M) : pm_Ok l yX1_isSteady cX1_isSteady 4 (some .boolean) rm_X1_isSteady [.ref b, .int p1] sh false sh 0 0 (fun r => (some (.int r), μ)) μ (f_X1_isSteady b p1 μ) := by
  obtain ⟨hb0, hb1, hb2⟩ := id hb
  refine pm_enter (own := RX1) (by decide) rfl (fun h => by cases h) (ls := [some (.ref b), some (.int p1), none, none]) rfl (fun _ => Nat.le_of_ble_eq_true rfl) ?_
  unfold f_X1_isSteady
  refine pv_iload_n dX1_isSteady_0 rfl ?_
  refine pv_cs_ri (rest := []) dX1_isSteady_1 my_X1_hasEachOnce sl_X1_53 (k_X1_hasEachOnce l sh p1 μ) rfl ⟨rfl, rfl, Nat.le_of_ble_eq_true rfl, Nat.le_of_ble_eq_true rfl⟩ ⟨Nat.zero_le _, Nat.zero_le _⟩ (Nat.le_of_ble_eq_true rfl) rfl (fun r1 => ?_)
  refine pv_if_ne (tgt := 9) dX1_isSteady_4 (by decide) ?_ ?_
  · refine pv_iconst (v := 0) dX1_isSteady_9 (by decide) ?_
    refine pv_istore_n (ls' := [some (.ref b), some (.int p1), some (.int (0 : Int32)), none]) dX1_isSteady_10 (Nat.le_of_ble_eq_true rfl) rfl ?_
    refine pv_loop (body := (f_X1_isSteady_b11 b p1 μ)) (pcE := 59) (lsf := fun v11 => [some (.ref b), some (.int p1), some (.int v11), none]) (mf := fun v11 => μ) (lsE := fun e11 => [none, none, none, none]) (mE := fun e11 => μ) (fun e11 => ?_) (fun E11 hE11 T11 hT11 v11 => ?_) 5000 (0 : Int32)
    · refine pv_iconst (v := 1) dX1_isSteady_59 (by decide) ?_
      exact pv_iret dX1_isSteady_60 rfl rfl rfl
    · unfold f_X1_isSteady_b11
      refine pv_iload_n dX1_isSteady_11 rfl ?_
      refine pv_iconst (v := 4) dX1_isSteady_12 (by decide) ?_
      refine pv_icmp_ge (tgt := 59) dX1_isSteady_13 (by decide) ?_ ?_
      · refine pv_mask (ls' := [none, none, none, none]) [false, false, false, false] rfl ?_
        exact hE11 ()
      · refine pv_iconst (v := 0) dX1_isSteady_16 (by decide) ?_
        refine pv_istore_n (ls' := [some (.ref b), some (.int p1), some (.int v11), some (.int (0 : Int32))]) dX1_isSteady_17 (Nat.le_of_ble_eq_true rfl) rfl ?_
        refine pv_loop (body := (f_X1_isSteady_b18 b p1 μ v11)) (pcE := 53) (lsf := fun v18 => [some (.ref b), some (.int p1), some (.int v11), some (.int v18)]) (mf := fun v18 => μ) (lsE := fun e18 => [some (.ref b), some (.int p1), some (.int v11), none]) (mE := fun e18 => μ) (fun e18 => ?_) (fun E18 hE18 T18 hT18 v18 => ?_) 5000 (0 : Int32)
        · refine pv_iinc (v := (v11 + 1)) (ls' := [some (.ref b), some (.int p1), some (.int (v11 + 1)), none]) dX1_isSteady_53 rfl rfl (Nat.le_of_ble_eq_true rfl) rfl ?_
          refine pv_goto (tgt := 11) dX1_isSteady_56 (by decide) ?_
          exact hT11 (v11 + 1)
        · unfold f_X1_isSteady_b18
          refine pv_iload_n dX1_isSteady_18 rfl ?_
          refine pv_iconst (v := 4) dX1_isSteady_19 (by decide) ?_
          refine pv_icmp_ge (tgt := 53) dX1_isSteady_20 (by decide) ?_ ?_
          · refine pv_mask (ls' := [some (.ref b), some (.int p1), some (.int v11), none]) [true, true, true, false] rfl ?_
            exact hE18 ()
          · refine pv_aload_n dX1_isSteady_23 rfl ?_
            refine pv_iload_n dX1_isSteady_24 rfl ?_
            refine pv_iconst (v := 0) dX1_isSteady_25 (by decide) ?_
            refine pv_iload_n dX1_isSteady_26 rfl ?_
            refine pv_iload_n dX1_isSteady_27 rfl ?_
            refine pv_cv_ri (rest := []) dX1_isSteady_28 my_X1_prefers vl_X1_56 (k_X1_prefers l sh b hb p1 (0 : Int32) v11 v18 μ) hb0 rfl rfl ⟨rfl, rfl, Nat.le_of_ble_eq_true rfl, Nat.le_of_ble_eq_true rfl⟩ ⟨Nat.zero_le _, Nat.zero_le _⟩ (Nat.le_of_ble_eq_true rfl) rfl (fun r2 => ?_)
            refine pv_jn (pcJ := 47) (lsJ := fun a3 => [some (.ref b), some (.int p1), some (.int v11), some (.int v18)]) (stJ := fun a3 => []) (mJ := fun a3 => μ) (fun a3 => ?_) (fun j47 hj47 => ?_)
            · refine pv_iinc (v := (v18 + 1)) (ls' := [some (.ref b), some (.int p1), some (.int v11), some (.int (v18 + 1))]) dX1_isSteady_47 rfl rfl (Nat.le_of_ble_eq_true rfl) rfl ?_
              refine pv_goto (tgt := 18) dX1_isSteady_50 (by decide) ?_
              exact hT18 (v18 + 1)
            · refine pv_if_eq (tgt := 47) dX1_isSteady_31 (by decide) ?_ ?_
              · exact hj47 ()
              · refine pv_aload_n dX1_isSteady_34 rfl ?_
                refine pv_iload_n dX1_isSteady_35 rfl ?_
                refine pv_iconst (v := 1) dX1_isSteady_36 (by decide) ?_
                refine pv_iload_n dX1_isSteady_37 rfl ?_
                refine pv_iload_n dX1_isSteady_38 rfl ?_
                refine pv_cv_ri (rest := []) dX1_isSteady_39 my_X1_prefers vl_X1_56 (k_X1_prefers l sh b hb p1 (1 : Int32) v18 v11 μ) hb0 rfl rfl ⟨rfl, rfl, Nat.le_of_ble_eq_true rfl, Nat.le_of_ble_eq_true rfl⟩ ⟨Nat.zero_le _, Nat.zero_le _⟩ (Nat.le_of_ble_eq_true rfl) rfl (fun r4 => ?_)
                refine pv_if_eq (tgt := 47) dX1_isSteady_42 (by decide) ?_ ?_
                · exact hj47 ()
                · refine pv_iconst (v := 0) dX1_isSteady_45 (by decide) ?_
                  exact pv_iret dX1_isSteady_46 rfl rfl rfl
  · refine pv_iconst (v := 0) dX1_isSteady_7 (by decide) ?_
    exact pv_iret dX1_isSteady_8 rfl rfl rfl
def f_X1_countSteady_b4 (b : Nat) (μ : pm_M) (v4 : (Int32 × Int32)) (T4 : ((Int32 × Int32) → Option Int32)) (E4 : (Int32 → Option Int32)) : Option Int32 :=
  (if (256 : Int32) ≤ v4.2 then (E4 v4.1) else (f_X1_isSteady b v4.2 μ).bind (fun r1 => (pm_jn (fun (a2 : Int32) => (T4 (a2, (v4.2 + 1)))) (fun j22 => (if r1 = 0 then (j22 v4.1) else (j22 (v4.1 + 1)))))))
def f_X1_countSteady (b : Nat) (μ : pm_M) : Option Int32 :=
  (pm_it (f_X1_countSteady_b4 b μ) 5000 ((0 : Int32), (0 : Int32)) (fun e4 => (some e4)))
abbrev rm_X1_countSteady : Room := { frames := 5, cells := 0, slots := 0, locals := 111 }
set_option maxRecDepth 20000 in
set_option maxHeartbeats 2000000 in
theorem k_X1_countSteady (l : Launch) (sh : pm_S) (b : Nat) (hb : is_X1 sh b) (μ : pm_M) : pm_Ok l yX1_countSteady cX1_countSteady 3 (some .int) rm_X1_countSteady [.ref b] sh false sh 0 0 (fun r => (some (.int r), μ)) μ (f_X1_countSteady b μ) := by
  obtain ⟨hb0, hb1, hb2⟩ := id hb
  refine pm_enter (own := RX1) (by decide) rfl (fun h => by cases h) (ls := [some (.ref b), none, none]) rfl (fun _ => Nat.le_of_ble_eq_true rfl) ?_
  unfold f_X1_countSteady
  refine pv_iconst (v := 0) dX1_countSteady_0 (by decide) ?_
  refine pv_istore_n (ls' := [some (.ref b), some (.int (0 : Int32)), none]) dX1_countSteady_1 (Nat.le_of_ble_eq_true rfl) rfl ?_
  refine pv_iconst (v := 0) dX1_countSteady_2 (by decide) ?_
  refine pv_istore_n (ls' := [some (.ref b), some (.int (0 : Int32)), some (.int (0 : Int32))]) dX1_countSteady_3 (Nat.le_of_ble_eq_true rfl) rfl ?_
  refine pv_loop (body := (f_X1_countSteady_b4 b μ)) (pcE := 28) (lsf := fun v4 => [some (.ref b), some (.int v4.1), some (.int v4.2)]) (mf := fun v4 => μ) (lsE := fun e4 => [none, some (.int e4), none]) (mE := fun e4 => μ) (fun e4 => ?_) (fun E4 hE4 T4 hT4 v4 => ?_) 5000 ((0 : Int32), (0 : Int32))
  · refine pv_iload_n dX1_countSteady_28 rfl ?_
    exact pv_iret dX1_countSteady_29 rfl rfl rfl
  · unfold f_X1_countSteady_b4
    refine pv_iload_n dX1_countSteady_4 rfl ?_
    refine pv_sipush (v := 256) dX1_countSteady_5 (by decide) ?_
    refine pv_icmp_ge (tgt := 28) dX1_countSteady_8 (by decide) ?_ ?_
    · refine pv_mask (ls' := [none, some (.int v4.1), none]) [false, true, false] rfl ?_
      exact hE4 v4.1
    · refine pv_aload_n dX1_countSteady_11 rfl ?_
      refine pv_iload_n dX1_countSteady_12 rfl ?_
      refine pv_cv_ri (rest := []) dX1_countSteady_13 my_X1_isSteady vl_X1_40 (k_X1_isSteady l sh b hb v4.2 μ) hb0 rfl rfl ⟨rfl, rfl, Nat.le_of_ble_eq_true rfl, Nat.le_of_ble_eq_true rfl⟩ ⟨Nat.zero_le _, Nat.zero_le _⟩ (Nat.le_of_ble_eq_true rfl) rfl (fun r1 => ?_)
      refine pv_jn (pcJ := 22) (lsJ := fun a2 => [some (.ref b), some (.int a2), some (.int v4.2)]) (stJ := fun a2 => []) (mJ := fun a2 => μ) (fun a2 => ?_) (fun j22 hj22 => ?_)
      · refine pv_iinc (v := (v4.2 + 1)) (ls' := [some (.ref b), some (.int a2), some (.int (v4.2 + 1))]) dX1_countSteady_22 rfl rfl (Nat.le_of_ble_eq_true rfl) rfl ?_
        refine pv_goto (tgt := 4) dX1_countSteady_25 (by decide) ?_
        exact hT4 (a2, (v4.2 + 1))
      · refine pv_if_eq (tgt := 22) dX1_countSteady_16 (by decide) ?_ ?_
        · exact hj22 v4.1
        · refine pv_iinc (v := (v4.1 + 1)) (ls' := [some (.ref b), some (.int (v4.1 + 1)), some (.int v4.2)]) dX1_countSteady_19 rfl rfl (Nat.le_of_ble_eq_true rfl) rfl ?_
          exact hj22 (v4.1 + 1)
def f_X1_sumOfRanks_b5 (b : Nat) (p1 : Int32) (p2 : Int32) (μ : pm_M) (v5 : (Int32 × Int32)) (T5 : ((Int32 × Int32) → Option Int32)) (E5 : (Int32 → Option Int32)) : Option Int32 :=
  (if (4 : Int32) ≤ v5.2 then (E5 v5.1) else (f_X1_partnerIn p1 p2 v5.2).bind (fun r1 => (f_X1_rankOf b p2 v5.2 r1 μ).bind (fun r2 => pm_let (v5.1 + r2) (fun x3 => (T5 (x3, (v5.2 + 1)))))))
def f_X1_sumOfRanks (b : Nat) (p1 : Int32) (p2 : Int32) (μ : pm_M) : Option Int32 :=
  (pm_it (f_X1_sumOfRanks_b5 b p1 p2 μ) 5000 ((0 : Int32), (0 : Int32)) (fun e5 => (some e5)))
abbrev rm_X1_sumOfRanks : Room := { frames := 3, cells := 0, slots := 0, locals := 64 }
set_option maxRecDepth 20000 in
set_option maxHeartbeats 2000000 in
theorem k_X1_sumOfRanks (l : Launch) (sh : pm_S) (b : Nat) (hb : is_X1 sh b) (p1 : Int32) (p2 : Int32) (μ : pm_M) : pm_Ok l yX1_sumOfRanks cX1_sumOfRanks 5 (some .int) rm_X1_sumOfRanks [.ref b, .int p1, .int p2] sh false sh 0 0 (fun r => (some (.int r), μ)) μ (f_X1_sumOfRanks b p1 p2 μ) := by
  obtain ⟨hb0, hb1, hb2⟩ := id hb
  refine pm_enter (own := RX1) (by decide) rfl (fun h => by cases h) (ls := [some (.ref b), some (.int p1), some (.int p2), none, none]) rfl (fun _ => Nat.le_of_ble_eq_true rfl) ?_
  unfold f_X1_sumOfRanks
  refine pv_iconst (v := 0) dX1_sumOfRanks_0 (by decide) ?_
  refine pv_istore_n (ls' := [some (.ref b), some (.int p1), some (.int p2), some (.int (0 : Int32)), none]) dX1_sumOfRanks_1 (Nat.le_of_ble_eq_true rfl) rfl ?_
  refine pv_iconst (v := 0) dX1_sumOfRanks_2 (by decide) ?_
  refine pv_istore (ls' := [some (.ref b), some (.int p1), some (.int p2), some (.int (0 : Int32)), some (.int (0 : Int32))]) dX1_sumOfRanks_3 (Nat.le_of_ble_eq_true rfl) rfl ?_
  refine pv_loop (body := (f_X1_sumOfRanks_b5 b p1 p2 μ)) (pcE := 34) (lsf := fun v5 => [some (.ref b), some (.int p1), some (.int p2), some (.int v5.1), some (.int v5.2)]) (mf := fun v5 => μ) (lsE := fun e5 => [none, none, none, some (.int e5), none]) (mE := fun e5 => μ) (fun e5 => ?_) (fun E5 hE5 T5 hT5 v5 => ?_) 5000 ((0 : Int32), (0 : Int32))
  · refine pv_iload_n dX1_sumOfRanks_34 rfl ?_
    exact pv_iret dX1_sumOfRanks_35 rfl rfl rfl
  · unfold f_X1_sumOfRanks_b5
    refine pv_iload dX1_sumOfRanks_5 rfl ?_
    refine pv_iconst (v := 4) dX1_sumOfRanks_7 (by decide) ?_
    refine pv_icmp_ge (tgt := 34) dX1_sumOfRanks_8 (by decide) ?_ ?_
    · refine pv_mask (ls' := [none, none, none, some (.int v5.1), none]) [false, false, false, true, false] rfl ?_
      exact hE5 v5.1
    · refine pv_iload_n dX1_sumOfRanks_11 rfl ?_
      refine pv_aload_n dX1_sumOfRanks_12 rfl ?_
      refine pv_iload_n dX1_sumOfRanks_13 rfl ?_
      refine pv_iload dX1_sumOfRanks_14 rfl ?_
      refine pv_iload_n dX1_sumOfRanks_16 rfl ?_
      refine pv_iload_n dX1_sumOfRanks_17 rfl ?_
      refine pv_iload dX1_sumOfRanks_18 rfl ?_
      refine pv_cs_ri (rest := [.int v5.2, .int p2, .ref b, .int v5.1]) dX1_sumOfRanks_20 my_X1_partnerIn sl_X1_46 (k_X1_partnerIn l sh p1 p2 v5.2 μ) rfl ⟨rfl, rfl, Nat.le_of_ble_eq_true rfl, Nat.le_of_ble_eq_true rfl⟩ ⟨Nat.zero_le _, Nat.zero_le _⟩ (Nat.le_of_ble_eq_true rfl) rfl (fun r1 => ?_)
      refine pv_cv_ri (rest := [.int v5.1]) dX1_sumOfRanks_23 my_X1_rankOf vl_X1_50 (k_X1_rankOf l sh b hb p2 v5.2 r1 μ) hb0 rfl rfl ⟨rfl, rfl, Nat.le_of_ble_eq_true rfl, Nat.le_of_ble_eq_true rfl⟩ ⟨Nat.zero_le _, Nat.zero_le _⟩ (Nat.le_of_ble_eq_true rfl) rfl (fun r2 => ?_)
      refine pv_iadd dX1_sumOfRanks_26 ?_
      refine pv_let (fun x3 => ?_)
      refine pv_istore_n (ls' := [some (.ref b), some (.int p1), some (.int p2), some (.int x3), some (.int v5.2)]) dX1_sumOfRanks_27 (Nat.le_of_ble_eq_true rfl) rfl ?_
      refine pv_iinc (v := (v5.2 + 1)) (ls' := [some (.ref b), some (.int p1), some (.int p2), some (.int x3), some (.int (v5.2 + 1))]) dX1_sumOfRanks_28 rfl rfl (Nat.le_of_ble_eq_true rfl) rfl ?_
      refine pv_goto (tgt := 5) dX1_sumOfRanks_31 (by decide) ?_
      exact hT5 (x3, (v5.2 + 1))
def f_X1_bestSteady_b10 (b : Nat) (p1 : Int32) (μ : pm_M) (v10 : (Int32 × Int32 × Int32)) (T10 : ((Int32 × Int32 × Int32) → Option Int32)) (E10 : (Int32 → Option Int32)) : Option Int32 :=
  (if (256 : Int32) ≤ v10.2.2 then (E10 v10.1) else (f_X1_isSteady b v10.2.2 μ).bind (fun r1 => (pm_jn (fun (a2 : (Int32 × Int32)) => (T10 (a2.1, a2.2, (v10.2.2 + 1)))) (fun j49 => (if r1 = 0 then (j49 (v10.1, v10.2.1)) else (f_X1_sumOfRanks b v10.2.2 p1 μ).bind (fun r3 => (if v10.2.1 ≤ r3 then (j49 (v10.1, v10.2.1)) else (f_X1_sumOfRanks b v10.2.2 p1 μ).bind (fun r4 => (j49 (v10.2.2, r4))))))))))
def f_X1_bestSteady (b : Nat) (p1 : Int32) (μ : pm_M) : Option Int32 :=
  (pm_it (f_X1_bestSteady_b10 b p1 μ) 5000 ((228 : Int32), (16 : Int32), (0 : Int32)) (fun e10 => (some e10)))
abbrev rm_X1_bestSteady : Room := { frames := 5, cells := 0, slots := 0, locals := 111 }
set_option maxRecDepth 20000 in
set_option maxHeartbeats 2000000 in
theorem k_X1_bestSteady (l : Launch) (sh : pm_S) (b : Nat) (hb : is_X1 sh b) (p1 : Int32) (μ : pm_M) : pm_Ok l yX1_bestSteady cX1_bestSteady 5 (some .int) rm_X1_bestSteady [.ref b, .int p1] sh false sh 0 0 (fun r => (some (.int r), μ)) μ (f_X1_bestSteady b p1 μ) := by
  obtain ⟨hb0, hb1, hb2⟩ := id hb
  refine pm_enter (own := RX1) (by decide) rfl (fun h => by cases h) (ls := [some (.ref b), some (.int p1), none, none, none]) rfl (fun _ => Nat.le_of_ble_eq_true rfl) ?_
  unfold f_X1_bestSteady
  refine pv_sipush (v := 228) dX1_bestSteady_0 (by decide) ?_
  refine pv_istore_n (ls' := [some (.ref b), some (.int p1), some (.int (228 : Int32)), none, none]) dX1_bestSteady_3 (Nat.le_of_ble_eq_true rfl) rfl ?_
  refine pv_bipush (v := 16) dX1_bestSteady_4 (by decide) ?_
  refine pv_istore_n (ls' := [some (.ref b), some (.int p1), some (.int (228 : Int32)), some (.int (16 : Int32)), none]) dX1_bestSteady_6 (Nat.le_of_ble_eq_true rfl) rfl ?_
  refine pv_iconst (v := 0) dX1_bestSteady_7 (by decide) ?_
  refine pv_istore (ls' := [some (.ref b), some (.int p1), some (.int (228 : Int32)), some (.int (16 : Int32)), some (.int (0 : Int32))]) dX1_bestSteady_8 (Nat.le_of_ble_eq_true rfl) rfl ?_
  refine pv_loop (body := (f_X1_bestSteady_b10 b p1 μ)) (pcE := 55) (lsf := fun v10 => [some (.ref b), some (.int p1), some (.int v10.1), some (.int v10.2.1), some (.int v10.2.2)]) (mf := fun v10 => μ) (lsE := fun e10 => [none, none, some (.int e10), none, none]) (mE := fun e10 => μ) (fun e10 => ?_) (fun E10 hE10 T10 hT10 v10 => ?_) 5000 ((228 : Int32), (16 : Int32), (0 : Int32))
  · refine pv_iload_n dX1_bestSteady_55 rfl ?_
    exact pv_iret dX1_bestSteady_56 rfl rfl rfl
  · unfold f_X1_bestSteady_b10
    refine pv_iload dX1_bestSteady_10 rfl ?_
    refine pv_sipush (v := 256) dX1_bestSteady_12 (by decide) ?_
    refine pv_icmp_ge (tgt := 55) dX1_bestSteady_15 (by decide) ?_ ?_
    · refine pv_mask (ls' := [none, none, some (.int v10.1), none, none]) [false, false, true, false, false] rfl ?_
      exact hE10 v10.1
    · refine pv_aload_n dX1_bestSteady_18 rfl ?_
      refine pv_iload dX1_bestSteady_19 rfl ?_
      refine pv_cv_ri (rest := []) dX1_bestSteady_21 my_X1_isSteady vl_X1_40 (k_X1_isSteady l sh b hb v10.2.2 μ) hb0 rfl rfl ⟨rfl, rfl, Nat.le_of_ble_eq_true rfl, Nat.le_of_ble_eq_true rfl⟩ ⟨Nat.zero_le _, Nat.zero_le _⟩ (Nat.le_of_ble_eq_true rfl) rfl (fun r1 => ?_)
      refine pv_jn (pcJ := 49) (lsJ := fun a2 => [some (.ref b), some (.int p1), some (.int a2.1), some (.int a2.2), some (.int v10.2.2)]) (stJ := fun a2 => []) (mJ := fun a2 => μ) (fun a2 => ?_) (fun j49 hj49 => ?_)
      · refine pv_iinc (v := (v10.2.2 + 1)) (ls' := [some (.ref b), some (.int p1), some (.int a2.1), some (.int a2.2), some (.int (v10.2.2 + 1))]) dX1_bestSteady_49 rfl rfl (Nat.le_of_ble_eq_true rfl) rfl ?_
        refine pv_goto (tgt := 10) dX1_bestSteady_52 (by decide) ?_
        exact hT10 (a2.1, a2.2, (v10.2.2 + 1))
      · refine pv_if_eq (tgt := 49) dX1_bestSteady_24 (by decide) ?_ ?_
        · exact hj49 (v10.1, v10.2.1)
        · refine pv_aload_n dX1_bestSteady_27 rfl ?_
          refine pv_iload dX1_bestSteady_28 rfl ?_
          refine pv_iload_n dX1_bestSteady_30 rfl ?_
          refine pv_cv_ri (rest := []) dX1_bestSteady_31 my_X1_sumOfRanks vl_X1_43 (k_X1_sumOfRanks l sh b hb v10.2.2 p1 μ) hb0 rfl rfl ⟨rfl, rfl, Nat.le_of_ble_eq_true rfl, Nat.le_of_ble_eq_true rfl⟩ ⟨Nat.zero_le _, Nat.zero_le _⟩ (Nat.le_of_ble_eq_true rfl) rfl (fun r3 => ?_)
          refine pv_iload_n dX1_bestSteady_34 rfl ?_
          refine pv_icmp_ge (tgt := 49) dX1_bestSteady_35 (by decide) ?_ ?_
          · exact hj49 (v10.1, v10.2.1)
          · refine pv_iload dX1_bestSteady_38 rfl ?_
            refine pv_istore_n (ls' := [some (.ref b), some (.int p1), some (.int v10.2.2), some (.int v10.2.1), some (.int v10.2.2)]) dX1_bestSteady_40 (Nat.le_of_ble_eq_true rfl) rfl ?_
            refine pv_aload_n dX1_bestSteady_41 rfl ?_
            refine pv_iload dX1_bestSteady_42 rfl ?_
            refine pv_iload_n dX1_bestSteady_44 rfl ?_
            refine pv_cv_ri (rest := []) dX1_bestSteady_45 my_X1_sumOfRanks vl_X1_43 (k_X1_sumOfRanks l sh b hb v10.2.2 p1 μ) hb0 rfl rfl ⟨rfl, rfl, Nat.le_of_ble_eq_true rfl, Nat.le_of_ble_eq_true rfl⟩ ⟨Nat.zero_le _, Nat.zero_le _⟩ (Nat.le_of_ble_eq_true rfl) rfl (fun r4 => ?_)
            refine pv_istore_n (ls' := [some (.ref b), some (.int p1), some (.int v10.2.2), some (.int r4), some (.int v10.2.2)]) dX1_bestSteady_48 (Nat.le_of_ble_eq_true rfl) rfl ?_
            exact hj49 (v10.2.2, r4)
