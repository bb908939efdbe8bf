def f_X10_mends_b17 (p1 : Int32) (m2 : pm_M) (v17 : (Int32 × Int32)) (T17 : ((Int32 × Int32) → Option (Int32 × pm_M))) (E17 : (Int32 → Option (Int32 × pm_M))) : Option (Int32 × pm_M) :=
  (if (7 : Int32) ≤ v17.2 then (E17 v17.1) else pm_ck (((7 : Int32) * p1) + v17.2) 64 ((f_X10_in (m2 51 (Int32.toNatClampNeg (((7 : Int32) * p1) + v17.2))) (0 : Int32) (8 : Int32)).bind (fun r3 => (pm_jn (fun (a4 : Int32) => pm_let (v17.1 ||| a4) (fun x5 => (T17 (x5, (v17.2 + 1))))) (fun j51 => (if r3 = 0 then (j51 (0 : Int32)) else (j51 ((1 : Int32) <<< (v17.2 &&& 31)))))))))
def f_X10_mends_b113 (v61 : (Int32 × pm_M)) (v69 : (Int32 × pm_M)) (x6 : Int32) (v113 : (Int32 × Int32)) (T113 : ((Int32 × Int32) → Option (Int32 × pm_M))) (E113 : (Int32 → Option (Int32 × pm_M))) : Option (Int32 × pm_M) :=
  (if (7 : Int32) ≤ v113.2 then (E113 v113.1) else (f_X10_has v61.1 v69.1).bind (fun r8 => (if r8 = 0 then (E113 v113.1) else (f_X10_has x6 v113.2).bind (fun r9 => (pm_jn (fun (a10 : Int32) => (pm_jn (fun (a11 : Int32) => (T113 (a11, (v113.2 + 1)))) (fun j187 => (if v113.1 ≤ a10 then (j187 v113.1) else (j187 a10))))) (fun j171 => (if r9 = 0 then (j171 (1000000 : Int32)) else pm_ck (((7 : Int32) * x6) + v113.2) 896 (pm_ck (((7 : Int32) * v113.2) + v69.1) 49 ((j171 ((v69.2 59 (Int32.toNatClampNeg (((7 : Int32) * x6) + v113.2))) + (v69.2 58 (Int32.toNatClampNeg (((7 : Int32) * v113.2) + v69.1))))))))))))))
def f_X10_mends_b69 (p1 : Int32) (v61 : (Int32 × pm_M)) (v69 : (Int32 × pm_M)) (T69 : ((Int32 × pm_M) → Option (Int32 × pm_M))) (E69 : (pm_M → Option (Int32 × pm_M))) : Option (Int32 × pm_M) :=
  (if (7 : Int32) ≤ v69.1 then (E69 v69.2) else pm_let (v61.1 &&& (((1 : Int32) <<< (v69.1 &&& 31)) ^^^ (-1 : Int32))) (fun x6 => (pm_jn (fun (a7 : Int32) => (pm_it (f_X10_mends_b113 v61 v69 x6) 5000 (a7, (0 : Int32)) (fun e113 => (f_X10_has v61.1 v69.1).bind (fun r12 => (pm_jn (fun (a13 : Int32) => pm_ck (((7 : Int32) * v61.1) + v69.1) 896 (pm_let (pm_up v69.2 59 (Int32.toNatClampNeg (((7 : Int32) * v61.1) + v69.1)) a13) (fun m14 => (T69 ((v69.1 + 1), m14))))) (fun j222 => (if r12 = 0 then (j222 (1000000 : Int32)) else (j222 e113)))))))) (fun j108 => (if x6 = 0 then pm_ck (((7 : Int32) * p1) + v69.1) 49 ((j108 (v69.2 58 (Int32.toNatClampNeg (((7 : Int32) * p1) + v69.1))))) else (j108 (1000000 : Int32)))))))
def f_X10_mends_b61 (p1 : Int32) (e17 : Int32) (v61 : (Int32 × pm_M)) (T61 : ((Int32 × pm_M) → Option (Int32 × pm_M))) (E61 : (pm_M → Option (Int32 × pm_M))) : Option (Int32 × pm_M) :=
  (if e17 < v61.1 then (E61 v61.2) else (pm_it (f_X10_mends_b69 p1 v61) 5000 ((0 : Int32), v61.2) (fun e69 => (T61 ((v61.1 + 1), e69)))))
def f_X10_mends_b249 (p1 : Int32) (e17 : Int32) (e61 : pm_M) (v249 : (Int32 × Int32)) (T249 : ((Int32 × Int32) → Option (Int32 × pm_M))) (E249 : (Int32 → Option (Int32 × pm_M))) : Option (Int32 × pm_M) :=
  (if (7 : Int32) ≤ v249.2 then (E249 v249.1) else (f_X10_has e17 v249.2).bind (fun r16 => (pm_jn (fun (a17 : Int32) => (pm_jn (fun (a18 : Int32) => (T249 (a18, (v249.2 + 1)))) (fun j309 => (if v249.1 ≤ a17 then (j309 v249.1) else (j309 a17))))) (fun j295 => (if r16 = 0 then (j295 (1000000 : Int32)) else pm_ck (((7 : Int32) * e17) + v249.2) 896 (pm_ck (((7 : Int32) * v249.2) + p1) 49 ((j295 ((e61 59 (Int32.toNatClampNeg (((7 : Int32) * e17) + v249.2))) + (e61 58 (Int32.toNatClampNeg (((7 : Int32) * v249.2) + p1))))))))))))
def f_X10_mends (p1 : Int32) (μ : pm_M) : Option (Int32 × pm_M) :=
  (f_X10_isFarm p1).bind (fun r1 => (if r1 = 0 then (some ((-1 : Int32), μ)) else (f_X10_layApart μ).bind (fun m2 => (pm_it (f_X10_mends_b17 p1 m2) 5000 ((0 : Int32), (0 : Int32)) (fun e17 => (pm_it (f_X10_mends_b61 p1 e17) 5000 ((1 : Int32), m2) (fun e61 => (pm_jn (fun (a15 : Int32) => (pm_it (f_X10_mends_b249 p1 e17 e61) 5000 (a15, (0 : Int32)) (fun e249 => (if (1000000 : Int32) ≤ e249 then (some ((-6 : Int32), e61)) else (some (e249, e61)))))) (fun j245 => (if e17 = 0 then (j245 (0 : Int32)) else (j245 (1000000 : Int32))))))))))))
abbrev rm_X10_mends : Room := { frames := 2, cells := 0, slots := 0, locals := 42 }
set_option maxRecDepth 20000 in
set_option maxHeartbeats 2000000 in
theorem k_X10_mends (l : Launch) (p1 : Int32) (μ : pm_M) : pm_Ok l yX10_mends cX10_mends 9 (some .int) rm_X10_mends [.ref 50, .int p1] SH false SH 0 0 (fun r => (some (.int r.1), r.2)) μ (f_X10_mends p1 μ) := by
  refine pm_enter (own := RX10) (by decide) rfl (fun h => by cases h) (ls := [some (.ref 50), some (.int p1), none, none, none, none, none, none, none]) rfl (fun _ => Nat.le_of_ble_eq_true rfl) ?_
  unfold f_X10_mends
  refine pv_iload_n dX10_mends_0 rfl ?_
  refine pv_cs_ri (rest := []) dX10_mends_1 my_X10_isFarm sl_X10_66 (k_X10_isFarm l SH p1 μ) rfl ⟨rfl, rfl, Nat.le_of_ble_eq_true rfl, Nat.le_of_ble_eq_true rfl⟩ ⟨Nat.zero_le _, Nat.zero_le _⟩ (Nat.le_of_ble_eq_true rfl) rfl (fun r1 => ?_)
  refine pv_if_ne (tgt := 9) dX10_mends_4 (by decide) ?_ ?_
  · refine pv_aload_n dX10_mends_9 rfl ?_
    refine pv_cv_wv (rest := []) dX10_mends_10 my_X10_layApart vl_X10_139 (k_X10_layApart l μ) sh_50 rfl rfl ⟨rfl, rfl, Nat.le_of_ble_eq_true rfl, Nat.le_of_ble_eq_true rfl⟩ ⟨Nat.zero_le _, Nat.zero_le _⟩ (Nat.le_of_ble_eq_true rfl) rfl (fun m2 => ?_)
    refine pv_iconst (v := 0) dX10_mends_13 (by decide) ?_
    refine pv_istore_n (ls' := [some (.ref 50), some (.int p1), some (.int (0 : Int32)), none, none, none, none, none, none]) dX10_mends_14 (Nat.le_of_ble_eq_true rfl) rfl ?_
    refine pv_iconst (v := 0) dX10_mends_15 (by decide) ?_
    refine pv_istore_n (ls' := [some (.ref 50), some (.int p1), some (.int (0 : Int32)), some (.int (0 : Int32)), none, none, none, none, none]) dX10_mends_16 (Nat.le_of_ble_eq_true rfl) rfl ?_
    refine pv_loop (body := (f_X10_mends_b17 p1 m2)) (pcE := 59) (lsf := fun v17 => [some (.ref 50), some (.int p1), some (.int v17.1), some (.int v17.2), none, none, none, none, none]) (mf := fun v17 => m2) (lsE := fun e17 => [some (.ref 50), some (.int p1), some (.int e17), none, none, none, none, none, none]) (mE := fun e17 => m2) (fun e17 => ?_) (fun E17 hE17 T17 hT17 v17 => ?_) 5000 ((0 : Int32), (0 : Int32))
    · refine pv_iconst (v := 1) dX10_mends_59 (by decide) ?_
      refine pv_istore_n (ls' := [some (.ref 50), some (.int p1), some (.int e17), some (.int (1 : Int32)), none, none, none, none, none]) dX10_mends_60 (Nat.le_of_ble_eq_true rfl) rfl ?_
      refine pv_loop (body := (f_X10_mends_b61 p1 e17)) (pcE := 235) (lsf := fun v61 => [some (.ref 50), some (.int p1), some (.int e17), some (.int v61.1), none, none, none, none, none]) (mf := fun v61 => v61.2) (lsE := fun e61 => [some (.ref 50), some (.int p1), some (.int e17), none, none, none, none, none, none]) (mE := fun e61 => e61) (fun e61 => ?_) (fun E61 hE61 T61 hT61 v61 => ?_) 5000 ((1 : Int32), m2)
      · refine pv_iload_n dX10_mends_235 rfl ?_
        refine pv_jn (pcJ := 245) (lsJ := fun a15 => [some (.ref 50), some (.int p1), some (.int e17), none, none, none, none, none, none]) (stJ := fun a15 => [.int a15]) (mJ := fun a15 => e61) (fun a15 => ?_) (fun j245 hj245 => ?_)
        · refine pv_istore_n (ls' := [some (.ref 50), some (.int p1), some (.int e17), some (.int a15), none, none, none, none, none]) dX10_mends_245 (Nat.le_of_ble_eq_true rfl) rfl ?_
          refine pv_iconst (v := 0) dX10_mends_246 (by decide) ?_
          refine pv_istore (ls' := [some (.ref 50), some (.int p1), some (.int e17), some (.int a15), some (.int (0 : Int32)), none, none, none, none]) dX10_mends_247 (Nat.le_of_ble_eq_true rfl) rfl ?_
          refine pv_loop (body := (f_X10_mends_b249 p1 e17 e61)) (pcE := 316) (lsf := fun v249 => [some (.ref 50), some (.int p1), some (.int e17), some (.int v249.1), some (.int v249.2), none, none, none, none]) (mf := fun v249 => e61) (lsE := fun e249 => [none, none, none, some (.int e249), none, none, none, none, none]) (mE := fun e249 => e61) (fun e249 => ?_) (fun E249 hE249 T249 hT249 v249 => ?_) 5000 (a15, (0 : Int32))
          · refine pv_iload_n dX10_mends_316 rfl ?_
            refine pv_ldc dX10_mends_317 kc_X10_138 ?_
            refine pv_icmp_ge (tgt := 326) dX10_mends_319 (by decide) ?_ ?_
            · refine pv_bipush (v := (-6)) dX10_mends_326 (by decide) ?_
              exact pv_iret dX10_mends_328 rfl rfl rfl
            · refine pv_iload_n dX10_mends_322 rfl ?_
              refine pv_goto (tgt := 328) dX10_mends_323 (by decide) ?_
              exact pv_iret dX10_mends_328 rfl rfl rfl
          · unfold f_X10_mends_b249
            refine pv_iload dX10_mends_249 rfl ?_
            refine pv_bipush (v := 7) dX10_mends_251 (by decide) ?_
            refine pv_icmp_ge (tgt := 316) dX10_mends_253 (by decide) ?_ ?_
            · refine pv_mask (ls' := [none, none, none, some (.int v249.1), none, none, none, none, none]) [false, false, false, true, false, false, false, false, false] rfl ?_
              exact hE249 v249.1
            · refine pv_iload_n dX10_mends_256 rfl ?_
              refine pv_iload dX10_mends_257 rfl ?_
              refine pv_cs_ri (rest := []) dX10_mends_259 my_X10_has sl_X10_142 (k_X10_has l SH e17 v249.2 e61) rfl ⟨rfl, rfl, Nat.le_of_ble_eq_true rfl, Nat.le_of_ble_eq_true rfl⟩ ⟨Nat.zero_le _, Nat.zero_le _⟩ (Nat.le_of_ble_eq_true rfl) rfl (fun r16 => ?_)
              refine pv_jn (pcJ := 295) (lsJ := fun a17 => [some (.ref 50), some (.int p1), some (.int e17), some (.int v249.1), some (.int v249.2), none, none, none, none]) (stJ := fun a17 => [.int a17]) (mJ := fun a17 => e61) (fun a17 => ?_) (fun j295 hj295 => ?_)
              · refine pv_istore (ls' := [some (.ref 50), some (.int p1), some (.int e17), some (.int v249.1), some (.int v249.2), some (.int a17), none, none, none]) dX10_mends_295 (Nat.le_of_ble_eq_true rfl) rfl ?_
                refine pv_iload dX10_mends_297 rfl ?_
                refine pv_iload_n dX10_mends_299 rfl ?_
                refine pv_jn (pcJ := 309) (lsJ := fun a18 => [some (.ref 50), some (.int p1), some (.int e17), none, some (.int v249.2), none, none, none, none]) (stJ := fun a18 => [.int a18]) (mJ := fun a18 => e61) (fun a18 => ?_) (fun j309 hj309 => ?_)
                · refine pv_istore_n (ls' := [some (.ref 50), some (.int p1), some (.int e17), some (.int a18), some (.int v249.2), none, none, none, none]) dX10_mends_309 (Nat.le_of_ble_eq_true rfl) rfl ?_
                  refine pv_iinc (v := (v249.2 + 1)) (ls' := [some (.ref 50), some (.int p1), some (.int e17), some (.int a18), some (.int (v249.2 + 1)), none, none, none, none]) dX10_mends_310 rfl rfl (Nat.le_of_ble_eq_true rfl) rfl ?_
                  refine pv_goto (tgt := 249) dX10_mends_313 (by decide) ?_
                  exact hT249 (a18, (v249.2 + 1))
                · refine pv_icmp_ge (tgt := 308) dX10_mends_300 (by decide) ?_ ?_
                  · refine pv_iload_n dX10_mends_308 rfl ?_
                    refine pv_mask (ls' := [some (.ref 50), some (.int p1), some (.int e17), none, some (.int v249.2), none, none, none, none]) [true, true, true, false, true, false, false, false, false] rfl ?_
                    exact hj309 v249.1
                  · refine pv_iload dX10_mends_303 rfl ?_
                    refine pv_goto (tgt := 309) dX10_mends_305 (by decide) ?_
                    refine pv_mask (ls' := [some (.ref 50), some (.int p1), some (.int e17), none, some (.int v249.2), none, none, none, none]) [true, true, true, false, true, false, false, false, false] rfl ?_
                    exact hj309 a17
              · refine pv_if_eq (tgt := 293) dX10_mends_262 (by decide) ?_ ?_
                · refine pv_ldc dX10_mends_293 kc_X10_138 ?_
                  exact hj295 (1000000 : Int32)
                · refine pv_aload_n dX10_mends_265 rfl ?_
                  refine pv_getr dX10_mends_266 fl_X10_34 sh_50 rfl ?_
                  refine pv_bipush (v := 7) dX10_mends_269 (by decide) ?_
                  refine pv_iload_n dX10_mends_271 rfl ?_
                  refine pv_imul dX10_mends_272 ?_
                  refine pv_iload dX10_mends_273 rfl ?_
                  refine pv_iadd dX10_mends_275 ?_
                  refine pv_iald dX10_mends_276 sh_59 ?_
                  refine pv_aload_n dX10_mends_277 rfl ?_
                  refine pv_getr dX10_mends_278 fl_X10_31 sh_50 rfl ?_
                  refine pv_bipush (v := 7) dX10_mends_281 (by decide) ?_
                  refine pv_iload dX10_mends_283 rfl ?_
                  refine pv_imul dX10_mends_285 ?_
                  refine pv_iload_n dX10_mends_286 rfl ?_
                  refine pv_iadd dX10_mends_287 ?_
                  refine pv_iald dX10_mends_288 sh_58 ?_
                  refine pv_iadd dX10_mends_289 ?_
                  refine pv_goto (tgt := 295) dX10_mends_290 (by decide) ?_
                  exact hj295 ((e61 59 (Int32.toNatClampNeg (((7 : Int32) * e17) + v249.2))) + (e61 58 (Int32.toNatClampNeg (((7 : Int32) * v249.2) + p1))))
        · refine pv_if_ne (tgt := 243) dX10_mends_236 (by decide) ?_ ?_
          · refine pv_ldc dX10_mends_243 kc_X10_138 ?_
            exact hj245 (1000000 : Int32)
          · refine pv_iconst (v := 0) dX10_mends_239 (by decide) ?_
            refine pv_goto (tgt := 245) dX10_mends_240 (by decide) ?_
            exact hj245 (0 : Int32)
      · unfold f_X10_mends_b61
        refine pv_iload_n dX10_mends_61 rfl ?_
        refine pv_iload_n dX10_mends_62 rfl ?_
        refine pv_icmp_gt (tgt := 235) dX10_mends_63 (by decide) ?_ ?_
        · refine pv_mask (ls' := [some (.ref 50), some (.int p1), some (.int e17), none, none, none, none, none, none]) [true, true, true, false, false, false, false, false, false] rfl ?_
          exact hE61 v61.2
        · refine pv_iconst (v := 0) dX10_mends_66 (by decide) ?_
          refine pv_istore (ls' := [some (.ref 50), some (.int p1), some (.int e17), some (.int v61.1), some (.int (0 : Int32)), none, none, none, none]) dX10_mends_67 (Nat.le_of_ble_eq_true rfl) rfl ?_
          refine pv_loop (body := (f_X10_mends_b69 p1 v61)) (pcE := 229) (lsf := fun v69 => [some (.ref 50), some (.int p1), some (.int e17), some (.int v61.1), some (.int v69.1), none, none, none, none]) (mf := fun v69 => v69.2) (lsE := fun e69 => [some (.ref 50), some (.int p1), some (.int e17), some (.int v61.1), none, none, none, none, none]) (mE := fun e69 => e69) (fun e69 => ?_) (fun E69 hE69 T69 hT69 v69 => ?_) 5000 ((0 : Int32), v61.2)
          · refine pv_iinc (v := (v61.1 + 1)) (ls' := [some (.ref 50), some (.int p1), some (.int e17), some (.int (v61.1 + 1)), none, none, none, none, none]) dX10_mends_229 rfl rfl (Nat.le_of_ble_eq_true rfl) rfl ?_
            refine pv_goto (tgt := 61) dX10_mends_232 (by decide) ?_
            exact hT61 ((v61.1 + 1), e69)
          · unfold f_X10_mends_b69
            refine pv_iload dX10_mends_69 rfl ?_
            refine pv_bipush (v := 7) dX10_mends_71 (by decide) ?_
            refine pv_icmp_ge (tgt := 229) dX10_mends_73 (by decide) ?_ ?_
            · refine pv_mask (ls' := [some (.ref 50), some (.int p1), some (.int e17), some (.int v61.1), none, none, none, none, none]) [true, true, true, true, false, false, false, false, false] rfl ?_
              exact hE69 v69.2
            · refine pv_iload_n dX10_mends_76 rfl ?_
              refine pv_iconst (v := 1) dX10_mends_77 (by decide) ?_
              refine pv_iload dX10_mends_78 rfl ?_
              refine pv_ishl dX10_mends_80 ?_
              refine pv_iconst (v := (-1)) dX10_mends_81 (by decide) ?_
              refine pv_ixor dX10_mends_82 ?_
              refine pv_iand dX10_mends_83 ?_
              refine pv_let (fun x6 => ?_)
              refine pv_istore (ls' := [some (.ref 50), some (.int p1), some (.int e17), some (.int v61.1), some (.int v69.1), some (.int x6), none, none, none]) dX10_mends_84 (Nat.le_of_ble_eq_true rfl) rfl ?_
              refine pv_iload dX10_mends_86 rfl ?_
              refine pv_jn (pcJ := 108) (lsJ := fun a7 => [some (.ref 50), some (.int p1), some (.int e17), some (.int v61.1), some (.int v69.1), some (.int x6), none, none, none]) (stJ := fun a7 => [.int a7]) (mJ := fun a7 => v69.2) (fun a7 => ?_) (fun j108 hj108 => ?_)
              · refine pv_istore (ls' := [some (.ref 50), some (.int p1), some (.int e17), some (.int v61.1), some (.int v69.1), some (.int x6), some (.int a7), none, none]) dX10_mends_108 (Nat.le_of_ble_eq_true rfl) rfl ?_
                refine pv_iconst (v := 0) dX10_mends_110 (by decide) ?_
                refine pv_istore (ls' := [some (.ref 50), some (.int p1), some (.int e17), some (.int v61.1), some (.int v69.1), some (.int x6), some (.int a7), some (.int (0 : Int32)), none]) dX10_mends_111 (Nat.le_of_ble_eq_true rfl) rfl ?_
                refine pv_loop (body := (f_X10_mends_b113 v61 v69 x6)) (pcE := 195) (lsf := fun v113 => [some (.ref 50), some (.int p1), some (.int e17), some (.int v61.1), some (.int v69.1), some (.int x6), some (.int v113.1), some (.int v113.2), none]) (mf := fun v113 => v69.2) (lsE := fun e113 => [some (.ref 50), some (.int p1), some (.int e17), some (.int v61.1), some (.int v69.1), none, some (.int e113), none, none]) (mE := fun e113 => v69.2) (fun e113 => ?_) (fun E113 hE113 T113 hT113 v113 => ?_) 5000 (a7, (0 : Int32))
                · refine pv_aload_n dX10_mends_195 rfl ?_
                  refine pv_getr dX10_mends_196 fl_X10_34 sh_50 rfl ?_
                  refine pv_bipush (v := 7) dX10_mends_199 (by decide) ?_
                  refine pv_iload_n dX10_mends_201 rfl ?_
                  refine pv_imul dX10_mends_202 ?_
                  refine pv_iload dX10_mends_203 rfl ?_
                  refine pv_iadd dX10_mends_205 ?_
                  refine pv_iload_n dX10_mends_206 rfl ?_
                  refine pv_iload dX10_mends_207 rfl ?_
                  refine pv_cs_ri (rest := [.int (((7 : Int32) * v61.1) + v69.1), .ref 59]) dX10_mends_209 my_X10_has sl_X10_142 (k_X10_has l SH v61.1 v69.1 v69.2) rfl ⟨rfl, rfl, Nat.le_of_ble_eq_true rfl, Nat.le_of_ble_eq_true rfl⟩ ⟨Nat.zero_le _, Nat.zero_le _⟩ (Nat.le_of_ble_eq_true rfl) rfl (fun r12 => ?_)
                  refine pv_jn (pcJ := 222) (lsJ := fun a13 => [some (.ref 50), some (.int p1), some (.int e17), some (.int v61.1), some (.int v69.1), none, none, none, none]) (stJ := fun a13 => [.int a13, .int (((7 : Int32) * v61.1) + v69.1), .ref 59]) (mJ := fun a13 => v69.2) (fun a13 => ?_) (fun j222 hj222 => ?_)
                  · refine pv_iast dX10_mends_222 sh_59 ?_
                    refine pv_letM (fun m14 => ?_)
                    refine pv_iinc (v := (v69.1 + 1)) (ls' := [some (.ref 50), some (.int p1), some (.int e17), some (.int v61.1), some (.int (v69.1 + 1)), none, none, none, none]) dX10_mends_223 rfl rfl (Nat.le_of_ble_eq_true rfl) rfl ?_
                    refine pv_goto (tgt := 69) dX10_mends_226 (by decide) ?_
                    exact hT69 ((v69.1 + 1), m14)
                  · refine pv_if_eq (tgt := 220) dX10_mends_212 (by decide) ?_ ?_
                    · refine pv_ldc dX10_mends_220 kc_X10_138 ?_
                      refine pv_mask (ls' := [some (.ref 50), some (.int p1), some (.int e17), some (.int v61.1), some (.int v69.1), none, none, none, none]) [true, true, true, true, true, false, false, false, false] rfl ?_
                      exact hj222 (1000000 : Int32)
                    · refine pv_iload dX10_mends_215 rfl ?_
                      refine pv_goto (tgt := 222) dX10_mends_217 (by decide) ?_
                      refine pv_mask (ls' := [some (.ref 50), some (.int p1), some (.int e17), some (.int v61.1), some (.int v69.1), none, none, none, none]) [true, true, true, true, true, false, false, false, false] rfl ?_
                      exact hj222 e113
                · unfold f_X10_mends_b113
                  refine pv_iload dX10_mends_113 rfl ?_
                  refine pv_bipush (v := 7) dX10_mends_115 (by decide) ?_
                  refine pv_icmp_ge (tgt := 195) dX10_mends_117 (by decide) ?_ ?_
                  · refine pv_mask (ls' := [some (.ref 50), some (.int p1), some (.int e17), some (.int v61.1), some (.int v69.1), none, some (.int v113.1), none, none]) [true, true, true, true, true, false, true, false, false] rfl ?_
                    exact hE113 v113.1
                  · refine pv_iload_n dX10_mends_120 rfl ?_
                    refine pv_iload dX10_mends_121 rfl ?_
                    refine pv_cs_ri (rest := []) dX10_mends_123 my_X10_has sl_X10_142 (k_X10_has l SH v61.1 v69.1 v69.2) rfl ⟨rfl, rfl, Nat.le_of_ble_eq_true rfl, Nat.le_of_ble_eq_true rfl⟩ ⟨Nat.zero_le _, Nat.zero_le _⟩ (Nat.le_of_ble_eq_true rfl) rfl (fun r8 => ?_)
                    refine pv_if_eq (tgt := 195) dX10_mends_126 (by decide) ?_ ?_
                    · refine pv_mask (ls' := [some (.ref 50), some (.int p1), some (.int e17), some (.int v61.1), some (.int v69.1), none, some (.int v113.1), none, none]) [true, true, true, true, true, false, true, false, false] rfl ?_
                      exact hE113 v113.1
                    · refine pv_iload dX10_mends_129 rfl ?_
                      refine pv_iload dX10_mends_131 rfl ?_
                      refine pv_cs_ri (rest := []) dX10_mends_133 my_X10_has sl_X10_142 (k_X10_has l SH x6 v113.2 v69.2) rfl ⟨rfl, rfl, Nat.le_of_ble_eq_true rfl, Nat.le_of_ble_eq_true rfl⟩ ⟨Nat.zero_le _, Nat.zero_le _⟩ (Nat.le_of_ble_eq_true rfl) rfl (fun r9 => ?_)
                      refine pv_jn (pcJ := 171) (lsJ := fun a10 => [some (.ref 50), some (.int p1), some (.int e17), some (.int v61.1), some (.int v69.1), some (.int x6), some (.int v113.1), some (.int v113.2), none]) (stJ := fun a10 => [.int a10]) (mJ := fun a10 => v69.2) (fun a10 => ?_) (fun j171 hj171 => ?_)
                      · refine pv_istore (ls' := [some (.ref 50), some (.int p1), some (.int e17), some (.int v61.1), some (.int v69.1), some (.int x6), some (.int v113.1), some (.int v113.2), some (.int a10)]) dX10_mends_171 (Nat.le_of_ble_eq_true rfl) rfl ?_
                        refine pv_iload dX10_mends_173 rfl ?_
                        refine pv_iload dX10_mends_175 rfl ?_
                        refine pv_jn (pcJ := 187) (lsJ := fun a11 => [some (.ref 50), some (.int p1), some (.int e17), some (.int v61.1), some (.int v69.1), some (.int x6), none, some (.int v113.2), none]) (stJ := fun a11 => [.int a11]) (mJ := fun a11 => v69.2) (fun a11 => ?_) (fun j187 hj187 => ?_)
                        · refine pv_istore (ls' := [some (.ref 50), some (.int p1), some (.int e17), some (.int v61.1), some (.int v69.1), some (.int x6), some (.int a11), some (.int v113.2), none]) dX10_mends_187 (Nat.le_of_ble_eq_true rfl) rfl ?_
                          refine pv_iinc (v := (v113.2 + 1)) (ls' := [some (.ref 50), some (.int p1), some (.int e17), some (.int v61.1), some (.int v69.1), some (.int x6), some (.int a11), some (.int (v113.2 + 1)), none]) dX10_mends_189 rfl rfl (Nat.le_of_ble_eq_true rfl) rfl ?_
                          refine pv_goto (tgt := 113) dX10_mends_192 (by decide) ?_
                          exact hT113 (a11, (v113.2 + 1))
                        · refine pv_icmp_ge (tgt := 185) dX10_mends_177 (by decide) ?_ ?_
                          · refine pv_iload dX10_mends_185 rfl ?_
                            refine pv_mask (ls' := [some (.ref 50), some (.int p1), some (.int e17), some (.int v61.1), some (.int v69.1), some (.int x6), none, some (.int v113.2), none]) [true, true, true, true, true, true, false, true, false] rfl ?_
                            exact hj187 v113.1
                          · refine pv_iload dX10_mends_180 rfl ?_
                            refine pv_goto (tgt := 187) dX10_mends_182 (by decide) ?_
                            refine pv_mask (ls' := [some (.ref 50), some (.int p1), some (.int e17), some (.int v61.1), some (.int v69.1), some (.int x6), none, some (.int v113.2), none]) [true, true, true, true, true, true, false, true, false] rfl ?_
                            exact hj187 a10
                      · refine pv_if_eq (tgt := 169) dX10_mends_136 (by decide) ?_ ?_
                        · refine pv_ldc dX10_mends_169 kc_X10_138 ?_
                          exact hj171 (1000000 : Int32)
                        · refine pv_aload_n dX10_mends_139 rfl ?_
                          refine pv_getr dX10_mends_140 fl_X10_34 sh_50 rfl ?_
                          refine pv_bipush (v := 7) dX10_mends_143 (by decide) ?_
                          refine pv_iload dX10_mends_145 rfl ?_
                          refine pv_imul dX10_mends_147 ?_
                          refine pv_iload dX10_mends_148 rfl ?_
                          refine pv_iadd dX10_mends_150 ?_
                          refine pv_iald dX10_mends_151 sh_59 ?_
                          refine pv_aload_n dX10_mends_152 rfl ?_
                          refine pv_getr dX10_mends_153 fl_X10_31 sh_50 rfl ?_
                          refine pv_bipush (v := 7) dX10_mends_156 (by decide) ?_
                          refine pv_iload dX10_mends_158 rfl ?_
                          refine pv_imul dX10_mends_160 ?_
                          refine pv_iload dX10_mends_161 rfl ?_
                          refine pv_iadd dX10_mends_163 ?_
                          refine pv_iald dX10_mends_164 sh_58 ?_
                          refine pv_iadd dX10_mends_165 ?_
                          refine pv_goto (tgt := 171) dX10_mends_166 (by decide) ?_
                          exact hj171 ((v69.2 59 (Int32.toNatClampNeg (((7 : Int32) * x6) + v113.2))) + (v69.2 58 (Int32.toNatClampNeg (((7 : Int32) * v113.2) + v69.1))))
              · refine pv_if_ne (tgt := 106) dX10_mends_88 (by decide) ?_ ?_
                · refine pv_ldc dX10_mends_106 kc_X10_138 ?_
                  exact hj108 (1000000 : Int32)
                · refine pv_aload_n dX10_mends_91 rfl ?_
                  refine pv_getr dX10_mends_92 fl_X10_31 sh_50 rfl ?_
                  refine pv_bipush (v := 7) dX10_mends_95 (by decide) ?_
                  refine pv_iload_n dX10_mends_97 rfl ?_
                  refine pv_imul dX10_mends_98 ?_
                  refine pv_iload dX10_mends_99 rfl ?_
                  refine pv_iadd dX10_mends_101 ?_
                  refine pv_iald dX10_mends_102 sh_58 ?_
                  refine pv_goto (tgt := 108) dX10_mends_103 (by decide) ?_
                  exact hj108 (v69.2 58 (Int32.toNatClampNeg (((7 : Int32) * p1) + v69.1)))
    · unfold f_X10_mends_b17
      refine pv_iload_n dX10_mends_17 rfl ?_
      refine pv_bipush (v := 7) dX10_mends_18 (by decide) ?_
      refine pv_icmp_ge (tgt := 59) dX10_mends_20 (by decide) ?_ ?_
      · refine pv_mask (ls' := [some (.ref 50), some (.int p1), some (.int v17.1), none, none, none, none, none, none]) [true, true, true, false, false, false, false, false, false] rfl ?_
        exact hE17 v17.1
      · refine pv_iload_n dX10_mends_23 rfl ?_
        refine pv_aload_n dX10_mends_24 rfl ?_
        refine pv_getr dX10_mends_25 fl_X10_7 sh_50 rfl ?_
        refine pv_bipush (v := 7) dX10_mends_28 (by decide) ?_
        refine pv_iload_n dX10_mends_30 rfl ?_
        refine pv_imul dX10_mends_31 ?_
        refine pv_iload_n dX10_mends_32 rfl ?_
        refine pv_iadd dX10_mends_33 ?_
        refine pv_iald dX10_mends_34 sh_51 ?_
        refine pv_iconst (v := 0) dX10_mends_35 (by decide) ?_
        refine pv_bipush (v := 8) dX10_mends_36 (by decide) ?_
        refine pv_cs_ri (rest := [.int v17.1]) dX10_mends_38 my_X10_in sl_X10_62 (k_X10_in l SH (m2 51 (Int32.toNatClampNeg (((7 : Int32) * p1) + v17.2))) (0 : Int32) (8 : Int32) m2) rfl ⟨rfl, rfl, Nat.le_of_ble_eq_true rfl, Nat.le_of_ble_eq_true rfl⟩ ⟨Nat.zero_le _, Nat.zero_le _⟩ (Nat.le_of_ble_eq_true rfl) rfl (fun r3 => ?_)
        refine pv_jn (pcJ := 51) (lsJ := fun a4 => [some (.ref 50), some (.int p1), none, some (.int v17.2), none, none, none, none, none]) (stJ := fun a4 => [.int a4, .int v17.1]) (mJ := fun a4 => m2) (fun a4 => ?_) (fun j51 hj51 => ?_)
        · refine pv_ior dX10_mends_51 ?_
          refine pv_let (fun x5 => ?_)
          refine pv_istore_n (ls' := [some (.ref 50), some (.int p1), some (.int x5), some (.int v17.2), none, none, none, none, none]) dX10_mends_52 (Nat.le_of_ble_eq_true rfl) rfl ?_
          refine pv_iinc (v := (v17.2 + 1)) (ls' := [some (.ref 50), some (.int p1), some (.int x5), some (.int (v17.2 + 1)), none, none, none, none, none]) dX10_mends_53 rfl rfl (Nat.le_of_ble_eq_true rfl) rfl ?_
          refine pv_goto (tgt := 17) dX10_mends_56 (by decide) ?_
          exact hT17 (x5, (v17.2 + 1))
        · refine pv_if_eq (tgt := 50) dX10_mends_41 (by decide) ?_ ?_
          · refine pv_iconst (v := 0) dX10_mends_50 (by decide) ?_
            refine pv_mask (ls' := [some (.ref 50), some (.int p1), none, some (.int v17.2), none, none, none, none, none]) [true, true, false, true, false, false, false, false, false] rfl ?_
            exact hj51 (0 : Int32)
          · refine pv_iconst (v := 1) dX10_mends_44 (by decide) ?_
            refine pv_iload_n dX10_mends_45 rfl ?_
            refine pv_ishl dX10_mends_46 ?_
            refine pv_goto (tgt := 51) dX10_mends_47 (by decide) ?_
            refine pv_mask (ls' := [some (.ref 50), some (.int p1), none, some (.int v17.2), none, none, none, none, none]) [true, true, false, true, false, false, false, false, false] rfl ?_
            exact hj51 ((1 : Int32) <<< (v17.2 &&& 31))
  · refine pv_iconst (v := (-1)) dX10_mends_7 (by decide) ?_
    exact pv_iret dX10_mends_8 rfl rfl rfl
def f_X10_placeOf_b3 (p1 : Int32) (p2 : Int32) (p3 : Int32) (μ : pm_M) (v3 : Int32) (T3 : (Int32 → Option Int32)) (E3 : (Int32 → Option Int32)) : Option Int32 :=
  pm_let ((((16 : Int32) * p1) + ((4 : Int32) * p2)) + v3) (fun x1 => pm_ck x1 32 ((if (μ 54 (Int32.toNatClampNeg x1)) = p3 then (E3 v3) else (T3 (v3 + 1)))))
def f_X10_placeOf (p1 : Int32) (p2 : Int32) (p3 : Int32) (μ : pm_M) : Option Int32 :=
  (pm_it (f_X10_placeOf_b3 p1 p2 p3 μ) 5000 (0 : Int32) (fun e3 => (some e3)))
abbrev rm_X10_placeOf : Room := { frames := 0, cells := 0, slots := 0, locals := 0 }
set_option maxRecDepth 20000 in
set_option maxHeartbeats 2000000 in
theorem k_X10_placeOf (l : Launch) (p1 : Int32) (p2 : Int32) (p3 : Int32) (μ : pm_M) : pm_Ok l yX10_placeOf cX10_placeOf 5 (some .int) rm_X10_placeOf [.ref 50, .int p1, .int p2, .int p3] SH false SH 0 0 (fun r => (some (.int r), μ)) μ (f_X10_placeOf p1 p2 p3 μ) := by
  refine pm_enter (own := RX10) (by decide) rfl (fun h => by cases h) (ls := [some (.ref 50), some (.int p1), some (.int p2), some (.int p3), none]) rfl (fun _ => Nat.le_of_ble_eq_true rfl) ?_
  unfold f_X10_placeOf
  refine pv_iconst (v := 0) dX10_placeOf_0 (by decide) ?_
  refine pv_istore (ls' := [some (.ref 50), some (.int p1), some (.int p2), some (.int p3), some (.int (0 : Int32))]) dX10_placeOf_1 (Nat.le_of_ble_eq_true rfl) rfl ?_
  refine pv_loop (body := (f_X10_placeOf_b3 p1 p2 p3 μ)) (pcE := 29) (lsf := fun v3 => [some (.ref 50), some (.int p1), some (.int p2), some (.int p3), some (.int v3)]) (mf := fun v3 => μ) (lsE := fun e3 => [none, none, none, none, some (.int e3)]) (mE := fun e3 => μ) (fun e3 => ?_) (fun E3 hE3 T3 hT3 v3 => ?_) 5000 (0 : Int32)
  · refine pv_iload dX10_placeOf_29 rfl ?_
    exact pv_iret dX10_placeOf_31 rfl rfl rfl
  · unfold f_X10_placeOf_b3
    refine pv_aload_n dX10_placeOf_3 rfl ?_
    refine pv_getr dX10_placeOf_4 fl_X10_19 sh_50 rfl ?_
    refine pv_bipush (v := 16) dX10_placeOf_7 (by decide) ?_
    refine pv_iload_n dX10_placeOf_9 rfl ?_
    refine pv_imul dX10_placeOf_10 ?_
    refine pv_iconst (v := 4) dX10_placeOf_11 (by decide) ?_
    refine pv_iload_n dX10_placeOf_12 rfl ?_
    refine pv_imul dX10_placeOf_13 ?_
    refine pv_iadd dX10_placeOf_14 ?_
    refine pv_iload dX10_placeOf_15 rfl ?_
    refine pv_iadd dX10_placeOf_17 ?_
    refine pv_let (fun x1 => ?_)
    refine pv_iald dX10_placeOf_18 sh_54 ?_
    refine pv_iload_n dX10_placeOf_19 rfl ?_
    refine pv_icmp_eq (tgt := 29) dX10_placeOf_20 (by decide) ?_ ?_
    · refine pv_mask (ls' := [none, none, none, none, some (.int v3)]) [false, false, false, false, true] rfl ?_
      exact hE3 v3
    · refine pv_iinc (v := (v3 + 1)) (ls' := [some (.ref 50), some (.int p1), some (.int p2), some (.int p3), some (.int (v3 + 1))]) dX10_placeOf_23 rfl rfl (Nat.le_of_ble_eq_true rfl) rfl ?_
      refine pv_goto (tgt := 3) dX10_placeOf_26 (by decide) ?_
      exact hT3 (v3 + 1)
def f_X10_isSteady_b11 (μ : pm_M) (v4 : (Int32 × Int32)) (v11 : (Int32 × Int32)) (T11 : ((Int32 × Int32) → Option Int32)) (E11 : (Int32 → Option Int32)) : Option Int32 :=
  (if (4 : Int32) ≤ v11.2 then (E11 v11.1) else (pm_jn (fun (a1 : Int32) => (T11 (a1, (v11.2 + 1)))) (fun j69 => (pm_jn (fun (a2 : Unit) => (j69 (0 : Int32))) (fun j68 => (if v11.1 = 0 then (j68 ()) else (f_X10_placeOf (0 : Int32) v4.2 v11.2 μ).bind (fun r3 => pm_ck v4.2 4 ((f_X10_placeOf (0 : Int32) v4.2 (μ 60 (Int32.toNatClampNeg v4.2)) μ).bind (fun r4 => (pm_jn (fun (a5 : Unit) => (j69 (1 : Int32))) (fun j64 => (if r4 ≤ r3 then (j64 ()) else (f_X10_placeOf (1 : Int32) v11.2 v4.2 μ).bind (fun r6 => pm_ck v11.2 4 ((f_X10_placeOf (1 : Int32) v11.2 (μ 61 (Int32.toNatClampNeg v11.2)) μ).bind (fun r7 => (if r6 < r7 then (j68 ()) else (j64 ())))))))))))))))))
def f_X10_isSteady_b4 (μ : pm_M) (v4 : (Int32 × Int32)) (T4 : ((Int32 × Int32) → Option Int32)) (E4 : (Int32 → Option Int32)) : Option Int32 :=
  (if (4 : Int32) ≤ v4.2 then (E4 v4.1) else (pm_it (f_X10_isSteady_b11 μ v4) 5000 (v4.1, (0 : Int32)) (fun e11 => (T4 (e11, (v4.2 + 1))))))
def f_X10_isSteady (μ : pm_M) : Option Int32 :=
  (pm_it (f_X10_isSteady_b4 μ) 5000 ((1 : Int32), (0 : Int32)) (fun e4 => (if e4 = 0 ∨ e4 = 1 then some e4 else none)))
abbrev rm_X10_isSteady : Room := { frames := 1, cells := 0, slots := 0, locals := 24 }
set_option maxRecDepth 20000 in
set_option maxHeartbeats 2000000 in
theorem k_X10_isSteady (l : Launch) (μ : pm_M) : pm_Ok l yX10_isSteady cX10_isSteady 4 (some .boolean) rm_X10_isSteady [.ref 50] SH false SH 0 0 (fun r => (some (.int r), μ)) μ (f_X10_isSteady μ) := by
  refine pm_enter (own := RX10) (by decide) rfl (fun h => by cases h) (ls := [some (.ref 50), none, none, none]) rfl (fun _ => Nat.le_of_ble_eq_true rfl) ?_
  unfold f_X10_isSteady
  refine pv_iconst (v := 1) dX10_isSteady_0 (by decide) ?_
  refine pv_istore_n (ls' := [some (.ref 50), some (.int (1 : Int32)), none, none]) dX10_isSteady_1 (Nat.le_of_ble_eq_true rfl) rfl ?_
  refine pv_iconst (v := 0) dX10_isSteady_2 (by decide) ?_
  refine pv_istore_n (ls' := [some (.ref 50), some (.int (1 : Int32)), some (.int (0 : Int32)), none]) dX10_isSteady_3 (Nat.le_of_ble_eq_true rfl) rfl ?_
  refine pv_loop (body := (f_X10_isSteady_b4 μ)) (pcE := 82) (lsf := fun v4 => [some (.ref 50), some (.int v4.1), some (.int v4.2), none]) (mf := fun v4 => μ) (lsE := fun e4 => [none, some (.int e4), none, none]) (mE := fun e4 => μ) (fun e4 => ?_) (fun E4 hE4 T4 hT4 v4 => ?_) 5000 ((1 : Int32), (0 : Int32))
  · refine pv_iload_n dX10_isSteady_82 rfl ?_
    exact pv_zret (ty := .boolean) dX10_isSteady_83 rfl rfl
  · unfold f_X10_isSteady_b4
    refine pv_iload_n dX10_isSteady_4 rfl ?_
    refine pv_iconst (v := 4) dX10_isSteady_5 (by decide) ?_
    refine pv_icmp_ge (tgt := 82) dX10_isSteady_6 (by decide) ?_ ?_
    · refine pv_mask (ls' := [none, some (.int v4.1), none, none]) [false, true, false, false] rfl ?_
      exact hE4 v4.1
    · refine pv_iconst (v := 0) dX10_isSteady_9 (by decide) ?_
      refine pv_istore_n (ls' := [some (.ref 50), some (.int v4.1), some (.int v4.2), some (.int (0 : Int32))]) dX10_isSteady_10 (Nat.le_of_ble_eq_true rfl) rfl ?_
      refine pv_loop (body := (f_X10_isSteady_b11 μ v4)) (pcE := 76) (lsf := fun v11 => [some (.ref 50), some (.int v11.1), some (.int v4.2), some (.int v11.2)]) (mf := fun v11 => μ) (lsE := fun e11 => [some (.ref 50), some (.int e11), some (.int v4.2), none]) (mE := fun e11 => μ) (fun e11 => ?_) (fun E11 hE11 T11 hT11 v11 => ?_) 5000 (v4.1, (0 : Int32))
      · refine pv_iinc (v := (v4.2 + 1)) (ls' := [some (.ref 50), some (.int e11), some (.int (v4.2 + 1)), none]) dX10_isSteady_76 rfl rfl (Nat.le_of_ble_eq_true rfl) rfl ?_
        refine pv_goto (tgt := 4) dX10_isSteady_79 (by decide) ?_
        exact hT4 (e11, (v4.2 + 1))
      · unfold f_X10_isSteady_b11
        refine pv_iload_n dX10_isSteady_11 rfl ?_
        refine pv_iconst (v := 4) dX10_isSteady_12 (by decide) ?_
        refine pv_icmp_ge (tgt := 76) dX10_isSteady_13 (by decide) ?_ ?_
        · refine pv_mask (ls' := [some (.ref 50), some (.int v11.1), some (.int v4.2), none]) [true, true, true, false] rfl ?_
          exact hE11 v11.1
        · refine pv_iload_n dX10_isSteady_16 rfl ?_
          refine pv_jn (pcJ := 69) (lsJ := fun a1 => [some (.ref 50), none, some (.int v4.2), some (.int v11.2)]) (stJ := fun a1 => [.int a1]) (mJ := fun a1 => μ) (fun a1 => ?_) (fun j69 hj69 => ?_)
          · refine pv_istore_n (ls' := [some (.ref 50), some (.int a1), some (.int v4.2), some (.int v11.2)]) dX10_isSteady_69 (Nat.le_of_ble_eq_true rfl) rfl ?_
            refine pv_iinc (v := (v11.2 + 1)) (ls' := [some (.ref 50), some (.int a1), some (.int v4.2), some (.int (v11.2 + 1))]) dX10_isSteady_70 rfl rfl (Nat.le_of_ble_eq_true rfl) rfl ?_
            refine pv_goto (tgt := 11) dX10_isSteady_73 (by decide) ?_
            exact hT11 (a1, (v11.2 + 1))
          · refine pv_jn (pcJ := 68) (lsJ := fun a2 => [some (.ref 50), none, some (.int v4.2), some (.int v11.2)]) (stJ := fun a2 => []) (mJ := fun a2 => μ) (fun a2 => ?_) (fun j68 hj68 => ?_)
            · refine pv_iconst (v := 0) dX10_isSteady_68 (by decide) ?_
              exact hj69 (0 : Int32)
            · refine pv_if_eq (tgt := 68) dX10_isSteady_17 (by decide) ?_ ?_
              · refine pv_mask (ls' := [some (.ref 50), none, some (.int v4.2), some (.int v11.2)]) [true, false, true, true] rfl ?_
                exact hj68 ()
              · refine pv_aload_n dX10_isSteady_20 rfl ?_
                refine pv_iconst (v := 0) dX10_isSteady_21 (by decide) ?_
                refine pv_iload_n dX10_isSteady_22 rfl ?_
                refine pv_iload_n dX10_isSteady_23 rfl ?_
                refine pv_cv_ri (rest := []) dX10_isSteady_24 my_X10_placeOf vl_X10_146 (k_X10_placeOf l (0 : Int32) v4.2 v11.2 μ) sh_50 rfl rfl ⟨rfl, rfl, Nat.le_of_ble_eq_true rfl, Nat.le_of_ble_eq_true rfl⟩ ⟨Nat.zero_le _, Nat.zero_le _⟩ (Nat.le_of_ble_eq_true rfl) rfl (fun r3 => ?_)
                refine pv_aload_n dX10_isSteady_27 rfl ?_
                refine pv_iconst (v := 0) dX10_isSteady_28 (by decide) ?_
                refine pv_iload_n dX10_isSteady_29 rfl ?_
                refine pv_aload_n dX10_isSteady_30 rfl ?_
                refine pv_getr dX10_isSteady_31 fl_X10_37 sh_50 rfl ?_
                refine pv_iload_n dX10_isSteady_34 rfl ?_
                refine pv_iald dX10_isSteady_35 sh_60 ?_
                refine pv_cv_ri (rest := [.int r3]) dX10_isSteady_36 my_X10_placeOf vl_X10_146 (k_X10_placeOf l (0 : Int32) v4.2 (μ 60 (Int32.toNatClampNeg v4.2)) μ) sh_50 rfl rfl ⟨rfl, rfl, Nat.le_of_ble_eq_true rfl, Nat.le_of_ble_eq_true rfl⟩ ⟨Nat.zero_le _, Nat.zero_le _⟩ (Nat.le_of_ble_eq_true rfl) rfl (fun r4 => ?_)
                refine pv_jn (pcJ := 64) (lsJ := fun a5 => [some (.ref 50), none, some (.int v4.2), some (.int v11.2)]) (stJ := fun a5 => []) (mJ := fun a5 => μ) (fun a5 => ?_) (fun j64 hj64 => ?_)
                · refine pv_iconst (v := 1) dX10_isSteady_64 (by decide) ?_
                  refine pv_goto (tgt := 69) dX10_isSteady_65 (by decide) ?_
                  exact hj69 (1 : Int32)
                · refine pv_icmp_ge (tgt := 64) dX10_isSteady_39 (by decide) ?_ ?_
                  · refine pv_mask (ls' := [some (.ref 50), none, some (.int v4.2), some (.int v11.2)]) [true, false, true, true] rfl ?_
                    exact hj64 ()
                  · refine pv_aload_n dX10_isSteady_42 rfl ?_
                    refine pv_iconst (v := 1) dX10_isSteady_43 (by decide) ?_
                    refine pv_iload_n dX10_isSteady_44 rfl ?_
                    refine pv_iload_n dX10_isSteady_45 rfl ?_
                    refine pv_cv_ri (rest := []) dX10_isSteady_46 my_X10_placeOf vl_X10_146 (k_X10_placeOf l (1 : Int32) v11.2 v4.2 μ) sh_50 rfl rfl ⟨rfl, rfl, Nat.le_of_ble_eq_true rfl, Nat.le_of_ble_eq_true rfl⟩ ⟨Nat.zero_le _, Nat.zero_le _⟩ (Nat.le_of_ble_eq_true rfl) rfl (fun r6 => ?_)
                    refine pv_aload_n dX10_isSteady_49 rfl ?_
                    refine pv_iconst (v := 1) dX10_isSteady_50 (by decide) ?_
                    refine pv_iload_n dX10_isSteady_51 rfl ?_
                    refine pv_aload_n dX10_isSteady_52 rfl ?_
                    refine pv_getr dX10_isSteady_53 fl_X10_40 sh_50 rfl ?_
                    refine pv_iload_n dX10_isSteady_56 rfl ?_
                    refine pv_iald dX10_isSteady_57 sh_61 ?_
                    refine pv_cv_ri (rest := [.int r6]) dX10_isSteady_58 my_X10_placeOf vl_X10_146 (k_X10_placeOf l (1 : Int32) v11.2 (μ 61 (Int32.toNatClampNeg v11.2)) μ) sh_50 rfl rfl ⟨rfl, rfl, Nat.le_of_ble_eq_true rfl, Nat.le_of_ble_eq_true rfl⟩ ⟨Nat.zero_le _, Nat.zero_le _⟩ (Nat.le_of_ble_eq_true rfl) rfl (fun r7 => ?_)
                    refine pv_icmp_lt (tgt := 68) dX10_isSteady_61 (by decide) ?_ ?_
                    · refine pv_mask (ls' := [some (.ref 50), none, some (.int v4.2), some (.int v11.2)]) [true, false, true, true] rfl ?_
                      exact hj68 ()
                    · refine pv_mask (ls' := [some (.ref 50), none, some (.int v4.2), some (.int v11.2)]) [true, false, true, true] rfl ?_
                      exact hj64 ()
def f_X10_laySteady_b25 (p1 : Int32) (v8 : (Int32 × Int32 × Int32 × pm_M)) (v25 : (Int32 × Int32 × Int32 × pm_M)) (T25 : ((Int32 × Int32 × Int32 × pm_M) → Option (Int32 × pm_M))) (E25 : ((Int32 × Int32 × pm_M) → Option (Int32 × pm_M))) : Option (Int32 × pm_M) :=
  (if (4 : Int32) ≤ v25.2.2.1 then (E25 (v25.1, v25.2.1, v25.2.2.2)) else pm_ck v25.2.2.1 4 (pm_let (pm_up v25.2.2.2 60 (Int32.toNatClampNeg v25.2.2.1) ((v8.2.2.1 >>> (((2 : Int32) * v25.2.2.1) &&& 31)) &&& (3 : Int32))) (fun m1 => pm_ck v25.2.2.1 4 (pm_ck (m1 60 (Int32.toNatClampNeg v25.2.2.1)) 4 (pm_let (pm_up m1 61 (Int32.toNatClampNeg (m1 60 (Int32.toNatClampNeg v25.2.2.1))) v25.2.2.1) (fun m2 => pm_ck v25.2.2.1 4 (pm_let (v25.1 ||| ((1 : Int32) <<< ((m2 60 (Int32.toNatClampNeg v25.2.2.1)) &&& 31))) (fun x3 => (pm_jn (fun (a4 : Int32) => pm_let (v25.2.1 + a4) (fun x5 => (T25 (x3, x5, (v25.2.2.1 + 1), m2)))) (fun j112 => (if p1 = 0 then pm_ck v25.2.2.1 4 ((f_X10_placeOf (0 : Int32) v25.2.2.1 (m2 60 (Int32.toNatClampNeg v25.2.2.1)) m2).bind (fun r7 => (j112 r7))) else pm_ck v25.2.2.1 4 ((f_X10_placeOf (1 : Int32) (m2 60 (Int32.toNatClampNeg v25.2.2.1)) v25.2.2.1 m2).bind (fun r6 => (j112 r6))))))))))))))
def f_X10_laySteady_b141 (v8 : (Int32 × Int32 × Int32 × pm_M)) (e25 : (Int32 × Int32 × pm_M)) (v141 : (Int32 × pm_M)) (T141 : ((Int32 × pm_M) → Option (Int32 × pm_M))) (E141 : (pm_M → Option (Int32 × pm_M))) : Option (Int32 × pm_M) :=
  (if (4 : Int32) ≤ v141.1 then (E141 v141.2) else (if v8.2.1 ≤ e25.2.1 then (E141 v141.2) else pm_ck v141.1 4 (pm_ck v141.1 4 (pm_let (pm_up v141.2 62 (Int32.toNatClampNeg v141.1) (v141.2 60 (Int32.toNatClampNeg v141.1))) (fun m10 => (T141 ((v141.1 + 1), m10)))))))
def f_X10_laySteady_b8 (p1 : Int32) (v8 : (Int32 × Int32 × Int32 × pm_M)) (T8 : ((Int32 × Int32 × Int32 × pm_M) → Option (Int32 × pm_M))) (E8 : ((Int32 × pm_M) → Option (Int32 × pm_M))) : Option (Int32 × pm_M) :=
  (if (256 : Int32) ≤ v8.2.2.1 then (E8 (v8.1, v8.2.2.2)) else (pm_it (f_X10_laySteady_b25 p1 v8) 5000 ((0 : Int32), (0 : Int32), (0 : Int32), v8.2.2.2) (fun e25 => (pm_jn (fun (a8 : (Int32 × Int32 × pm_M)) => (T8 (a8.1, a8.2.1, (v8.2.2.1 + 1), a8.2.2))) (fun j186 => (if e25.1 = (15 : Int32) then (f_X10_isSteady e25.2.2).bind (fun r9 => (if r9 = 0 then (j186 (v8.1, v8.2.1, e25.2.2)) else (pm_it (f_X10_laySteady_b141 v8 e25) 5000 ((0 : Int32), e25.2.2) (fun e141 => (pm_jn (fun (a11 : Int32) => (j186 ((v8.1 + 1), a11, e141))) (fun j185 => (if v8.2.1 ≤ e25.2.1 then (j185 v8.2.1) else (j185 e25.2.1)))))))) else (j186 (v8.1, v8.2.1, e25.2.2))))))))
def f_X10_laySteady (p1 : Int32) (μ : pm_M) : Option (Int32 × pm_M) :=
  (pm_it (f_X10_laySteady_b8 p1) 5000 ((0 : Int32), (1000000 : Int32), (0 : Int32), μ) (fun e8 => (some (e8.1, e8.2))))
abbrev rm_X10_laySteady : Room := { frames := 2, cells := 0, slots := 0, locals := 47 }
set_option maxRecDepth 20000 in
set_option maxHeartbeats 2000000 in
theorem k_X10_laySteady (l : Launch) (p1 : Int32) (μ : pm_M) : pm_Ok l yX10_laySteady cX10_laySteady 8 (some .int) rm_X10_laySteady [.ref 50, .int p1] SH false SH 0 0 (fun r => (some (.int r.1), r.2)) μ (f_X10_laySteady p1 μ) := by
  refine pm_enter (own := RX10) (by decide) rfl (fun h => by cases h) (ls := [some (.ref 50), some (.int p1), none, none, none, none, none, none]) rfl (fun _ => Nat.le_of_ble_eq_true rfl) ?_
  unfold f_X10_laySteady
  refine pv_iconst (v := 0) dX10_laySteady_0 (by decide) ?_
  refine pv_istore_n (ls' := [some (.ref 50), some (.int p1), some (.int (0 : Int32)), none, none, none, none, none]) dX10_laySteady_1 (Nat.le_of_ble_eq_true rfl) rfl ?_
  refine pv_ldc dX10_laySteady_2 kc_X10_138 ?_
  refine pv_istore_n (ls' := [some (.ref 50), some (.int p1), some (.int (0 : Int32)), some (.int (1000000 : Int32)), none, none, none, none]) dX10_laySteady_4 (Nat.le_of_ble_eq_true rfl) rfl ?_
  refine pv_iconst (v := 0) dX10_laySteady_5 (by decide) ?_
  refine pv_istore (ls' := [some (.ref 50), some (.int p1), some (.int (0 : Int32)), some (.int (1000000 : Int32)), some (.int (0 : Int32)), none, none, none]) dX10_laySteady_6 (Nat.le_of_ble_eq_true rfl) rfl ?_
  refine pv_loop (body := (f_X10_laySteady_b8 p1)) (pcE := 192) (lsf := fun v8 => [some (.ref 50), some (.int p1), some (.int v8.1), some (.int v8.2.1), some (.int v8.2.2.1), none, none, none]) (mf := fun v8 => v8.2.2.2) (lsE := fun e8 => [none, none, some (.int e8.1), none, none, none, none, none]) (mE := fun e8 => e8.2) (fun e8 => ?_) (fun E8 hE8 T8 hT8 v8 => ?_) 5000 ((0 : Int32), (1000000 : Int32), (0 : Int32), μ)
  · refine pv_iload_n dX10_laySteady_192 rfl ?_
    exact pv_iret dX10_laySteady_193 rfl rfl rfl
  · unfold f_X10_laySteady_b8
    refine pv_iload dX10_laySteady_8 rfl ?_
    refine pv_sipush (v := 256) dX10_laySteady_10 (by decide) ?_
    refine pv_icmp_ge (tgt := 192) dX10_laySteady_13 (by decide) ?_ ?_
    · refine pv_mask (ls' := [none, none, some (.int v8.1), none, none, none, none, none]) [false, false, true, false, false, false, false, false] rfl ?_
      exact hE8 (v8.1, v8.2.2.2)
    · refine pv_iconst (v := 0) dX10_laySteady_16 (by decide) ?_
      refine pv_istore (ls' := [some (.ref 50), some (.int p1), some (.int v8.1), some (.int v8.2.1), some (.int v8.2.2.1), some (.int (0 : Int32)), none, none]) dX10_laySteady_17 (Nat.le_of_ble_eq_true rfl) rfl ?_
      refine pv_iconst (v := 0) dX10_laySteady_19 (by decide) ?_
      refine pv_istore (ls' := [some (.ref 50), some (.int p1), some (.int v8.1), some (.int v8.2.1), some (.int v8.2.2.1), some (.int (0 : Int32)), some (.int (0 : Int32)), none]) dX10_laySteady_20 (Nat.le_of_ble_eq_true rfl) rfl ?_
      refine pv_iconst (v := 0) dX10_laySteady_22 (by decide) ?_
      refine pv_istore (ls' := [some (.ref 50), some (.int p1), some (.int v8.1), some (.int v8.2.1), some (.int v8.2.2.1), some (.int (0 : Int32)), some (.int (0 : Int32)), some (.int (0 : Int32))]) dX10_laySteady_23 (Nat.le_of_ble_eq_true rfl) rfl ?_
      refine pv_loop (body := (f_X10_laySteady_b25 p1 v8)) (pcE := 121) (lsf := fun v25 => [some (.ref 50), some (.int p1), some (.int v8.1), some (.int v8.2.1), some (.int v8.2.2.1), some (.int v25.1), some (.int v25.2.1), some (.int v25.2.2.1)]) (mf := fun v25 => v25.2.2.2) (lsE := fun e25 => [some (.ref 50), some (.int p1), some (.int v8.1), some (.int v8.2.1), some (.int v8.2.2.1), some (.int e25.1), some (.int e25.2.1), none]) (mE := fun e25 => e25.2.2) (fun e25 => ?_) (fun E25 hE25 T25 hT25 v25 => ?_) 5000 ((0 : Int32), (0 : Int32), (0 : Int32), v8.2.2.2)
      · refine pv_iload dX10_laySteady_121 rfl ?_
        refine pv_bipush (v := 15) dX10_laySteady_123 (by decide) ?_
        refine pv_jn (pcJ := 186) (lsJ := fun a8 => [some (.ref 50), some (.int p1), some (.int a8.1), some (.int a8.2.1), some (.int v8.2.2.1), none, none, none]) (stJ := fun a8 => []) (mJ := fun a8 => a8.2.2) (fun a8 => ?_) (fun j186 hj186 => ?_)
        · refine pv_iinc (v := (v8.2.2.1 + 1)) (ls' := [some (.ref 50), some (.int p1), some (.int a8.1), some (.int a8.2.1), some (.int (v8.2.2.1 + 1)), none, none, none]) dX10_laySteady_186 rfl rfl (Nat.le_of_ble_eq_true rfl) rfl ?_
          refine pv_goto (tgt := 8) dX10_laySteady_189 (by decide) ?_
          exact hT8 (a8.1, a8.2.1, (v8.2.2.1 + 1), a8.2.2)
        · refine pv_icmp_ne (tgt := 186) dX10_laySteady_125 (by decide) ?_ ?_
          · refine pv_mask (ls' := [some (.ref 50), some (.int p1), some (.int v8.1), some (.int v8.2.1), some (.int v8.2.2.1), none, none, none]) [true, true, true, true, true, false, false, false] rfl ?_
            exact hj186 (v8.1, v8.2.1, e25.2.2)
          · refine pv_aload_n dX10_laySteady_128 rfl ?_
            refine pv_cv_ri (rest := []) dX10_laySteady_129 my_X10_isSteady vl_X10_150 (k_X10_isSteady l e25.2.2) sh_50 rfl rfl ⟨rfl, rfl, Nat.le_of_ble_eq_true rfl, Nat.le_of_ble_eq_true rfl⟩ ⟨Nat.zero_le _, Nat.zero_le _⟩ (Nat.le_of_ble_eq_true rfl) rfl (fun r9 => ?_)
            refine pv_if_eq (tgt := 186) dX10_laySteady_132 (by decide) ?_ ?_
            · refine pv_mask (ls' := [some (.ref 50), some (.int p1), some (.int v8.1), some (.int v8.2.1), some (.int v8.2.2.1), none, none, none]) [true, true, true, true, true, false, false, false] rfl ?_
              exact hj186 (v8.1, v8.2.1, e25.2.2)
            · refine pv_iinc (v := (v8.1 + 1)) (ls' := [some (.ref 50), some (.int p1), some (.int (v8.1 + 1)), some (.int v8.2.1), some (.int v8.2.2.1), some (.int e25.1), some (.int e25.2.1), none]) dX10_laySteady_135 rfl rfl (Nat.le_of_ble_eq_true rfl) rfl ?_
              refine pv_iconst (v := 0) dX10_laySteady_138 (by decide) ?_
              refine pv_istore (ls' := [some (.ref 50), some (.int p1), some (.int (v8.1 + 1)), some (.int v8.2.1), some (.int v8.2.2.1), some (.int e25.1), some (.int e25.2.1), some (.int (0 : Int32))]) dX10_laySteady_139 (Nat.le_of_ble_eq_true rfl) rfl ?_
              refine pv_mask (ls' := [some (.ref 50), some (.int p1), some (.int (v8.1 + 1)), some (.int v8.2.1), some (.int v8.2.2.1), none, some (.int e25.2.1), some (.int (0 : Int32))]) [true, true, true, true, true, false, true, true] rfl ?_
              refine pv_loop (body := (f_X10_laySteady_b141 v8 e25)) (pcE := 173) (lsf := fun v141 => [some (.ref 50), some (.int p1), some (.int (v8.1 + 1)), some (.int v8.2.1), some (.int v8.2.2.1), none, some (.int e25.2.1), some (.int v141.1)]) (mf := fun v141 => v141.2) (lsE := fun e141 => [some (.ref 50), some (.int p1), some (.int (v8.1 + 1)), some (.int v8.2.1), some (.int v8.2.2.1), none, some (.int e25.2.1), none]) (mE := fun e141 => e141) (fun e141 => ?_) (fun E141 hE141 T141 hT141 v141 => ?_) 5000 ((0 : Int32), e25.2.2)
              · refine pv_iload dX10_laySteady_173 rfl ?_
                refine pv_iload_n dX10_laySteady_175 rfl ?_
                refine pv_jn (pcJ := 185) (lsJ := fun a11 => [some (.ref 50), some (.int p1), some (.int (v8.1 + 1)), none, some (.int v8.2.2.1), none, none, none]) (stJ := fun a11 => [.int a11]) (mJ := fun a11 => e141) (fun a11 => ?_) (fun j185 hj185 => ?_)
                · refine pv_istore_n (ls' := [some (.ref 50), some (.int p1), some (.int (v8.1 + 1)), some (.int a11), some (.int v8.2.2.1), none, none, none]) dX10_laySteady_185 (Nat.le_of_ble_eq_true rfl) rfl ?_
                  exact hj186 ((v8.1 + 1), a11, e141)
                · refine pv_icmp_ge (tgt := 184) dX10_laySteady_176 (by decide) ?_ ?_
                  · refine pv_iload_n dX10_laySteady_184 rfl ?_
                    refine pv_mask (ls' := [some (.ref 50), some (.int p1), some (.int (v8.1 + 1)), none, some (.int v8.2.2.1), none, none, none]) [true, true, true, false, true, false, false, false] rfl ?_
                    exact hj185 v8.2.1
                  · refine pv_iload dX10_laySteady_179 rfl ?_
                    refine pv_goto (tgt := 185) dX10_laySteady_181 (by decide) ?_
                    refine pv_mask (ls' := [some (.ref 50), some (.int p1), some (.int (v8.1 + 1)), none, some (.int v8.2.2.1), none, none, none]) [true, true, true, false, true, false, false, false] rfl ?_
                    exact hj185 e25.2.1
              · unfold f_X10_laySteady_b141
                refine pv_iload dX10_laySteady_141 rfl ?_
                refine pv_iconst (v := 4) dX10_laySteady_143 (by decide) ?_
                refine pv_icmp_ge (tgt := 173) dX10_laySteady_144 (by decide) ?_ ?_
                · refine pv_mask (ls' := [some (.ref 50), some (.int p1), some (.int (v8.1 + 1)), some (.int v8.2.1), some (.int v8.2.2.1), none, some (.int e25.2.1), none]) [true, true, true, true, true, false, true, false] rfl ?_
                  exact hE141 v141.2
                · refine pv_iload dX10_laySteady_147 rfl ?_
                  refine pv_iload_n dX10_laySteady_149 rfl ?_
                  refine pv_icmp_ge (tgt := 173) dX10_laySteady_150 (by decide) ?_ ?_
                  · refine pv_mask (ls' := [some (.ref 50), some (.int p1), some (.int (v8.1 + 1)), some (.int v8.2.1), some (.int v8.2.2.1), none, some (.int e25.2.1), none]) [true, true, true, true, true, false, true, false] rfl ?_
                    exact hE141 v141.2
                  · refine pv_aload_n dX10_laySteady_153 rfl ?_
                    refine pv_getr dX10_laySteady_154 fl_X10_43 sh_50 rfl ?_
                    refine pv_iload dX10_laySteady_157 rfl ?_
                    refine pv_aload_n dX10_laySteady_159 rfl ?_
                    refine pv_getr dX10_laySteady_160 fl_X10_37 sh_50 rfl ?_
                    refine pv_iload dX10_laySteady_163 rfl ?_
                    refine pv_iald dX10_laySteady_165 sh_60 ?_
                    refine pv_iast dX10_laySteady_166 sh_62 ?_
                    refine pv_letM (fun m10 => ?_)
                    refine pv_iinc (v := (v141.1 + 1)) (ls' := [some (.ref 50), some (.int p1), some (.int (v8.1 + 1)), some (.int v8.2.1), some (.int v8.2.2.1), none, some (.int e25.2.1), some (.int (v141.1 + 1))]) dX10_laySteady_167 rfl rfl (Nat.le_of_ble_eq_true rfl) rfl ?_
                    refine pv_goto (tgt := 141) dX10_laySteady_170 (by decide) ?_
                    exact hT141 ((v141.1 + 1), m10)
      · unfold f_X10_laySteady_b25
        refine pv_iload dX10_laySteady_25 rfl ?_
        refine pv_iconst (v := 4) dX10_laySteady_27 (by decide) ?_
        refine pv_icmp_ge (tgt := 121) dX10_laySteady_28 (by decide) ?_ ?_
        · refine pv_mask (ls' := [some (.ref 50), some (.int p1), some (.int v8.1), some (.int v8.2.1), some (.int v8.2.2.1), some (.int v25.1), some (.int v25.2.1), none]) [true, true, true, true, true, true, true, false] rfl ?_
          exact hE25 (v25.1, v25.2.1, v25.2.2.2)
        · refine pv_aload_n dX10_laySteady_31 rfl ?_
          refine pv_getr dX10_laySteady_32 fl_X10_37 sh_50 rfl ?_
          refine pv_iload dX10_laySteady_35 rfl ?_
          refine pv_iload dX10_laySteady_37 rfl ?_
          refine pv_iconst (v := 2) dX10_laySteady_39 (by decide) ?_
          refine pv_iload dX10_laySteady_40 rfl ?_
          refine pv_imul dX10_laySteady_42 ?_
          refine pv_ishr dX10_laySteady_43 ?_
          refine pv_iconst (v := 3) dX10_laySteady_44 (by decide) ?_
          refine pv_iand dX10_laySteady_45 ?_
          refine pv_iast dX10_laySteady_46 sh_60 ?_
          refine pv_letM (fun m1 => ?_)
          refine pv_aload_n dX10_laySteady_47 rfl ?_
          refine pv_getr dX10_laySteady_48 fl_X10_40 sh_50 rfl ?_
          refine pv_aload_n dX10_laySteady_51 rfl ?_
          refine pv_getr dX10_laySteady_52 fl_X10_37 sh_50 rfl ?_
          refine pv_iload dX10_laySteady_55 rfl ?_
          refine pv_iald dX10_laySteady_57 sh_60 ?_
          refine pv_iload dX10_laySteady_58 rfl ?_
          refine pv_iast dX10_laySteady_60 sh_61 ?_
          refine pv_letM (fun m2 => ?_)
          refine pv_iload dX10_laySteady_61 rfl ?_
          refine pv_iconst (v := 1) dX10_laySteady_63 (by decide) ?_
          refine pv_aload_n dX10_laySteady_64 rfl ?_
          refine pv_getr dX10_laySteady_65 fl_X10_37 sh_50 rfl ?_
          refine pv_iload dX10_laySteady_68 rfl ?_
          refine pv_iald dX10_laySteady_70 sh_60 ?_
          refine pv_ishl dX10_laySteady_71 ?_
          refine pv_ior dX10_laySteady_72 ?_
          refine pv_let (fun x3 => ?_)
          refine pv_istore (ls' := [some (.ref 50), some (.int p1), some (.int v8.1), some (.int v8.2.1), some (.int v8.2.2.1), some (.int x3), some (.int v25.2.1), some (.int v25.2.2.1)]) dX10_laySteady_73 (Nat.le_of_ble_eq_true rfl) rfl ?_
          refine pv_iload dX10_laySteady_75 rfl ?_
          refine pv_iload_n dX10_laySteady_77 rfl ?_
          refine pv_jn (pcJ := 112) (lsJ := fun a4 => [some (.ref 50), some (.int p1), some (.int v8.1), some (.int v8.2.1), some (.int v8.2.2.1), some (.int x3), none, some (.int v25.2.2.1)]) (stJ := fun a4 => [.int a4, .int v25.2.1]) (mJ := fun a4 => m2) (fun a4 => ?_) (fun j112 hj112 => ?_)
          · refine pv_iadd dX10_laySteady_112 ?_
            refine pv_let (fun x5 => ?_)
            refine pv_istore (ls' := [some (.ref 50), some (.int p1), some (.int v8.1), some (.int v8.2.1), some (.int v8.2.2.1), some (.int x3), some (.int x5), some (.int v25.2.2.1)]) dX10_laySteady_113 (Nat.le_of_ble_eq_true rfl) rfl ?_
            refine pv_iinc (v := (v25.2.2.1 + 1)) (ls' := [some (.ref 50), some (.int p1), some (.int v8.1), some (.int v8.2.1), some (.int v8.2.2.1), some (.int x3), some (.int x5), some (.int (v25.2.2.1 + 1))]) dX10_laySteady_115 rfl rfl (Nat.le_of_ble_eq_true rfl) rfl ?_
            refine pv_goto (tgt := 25) dX10_laySteady_118 (by decide) ?_
            exact hT25 (x3, x5, (v25.2.2.1 + 1), m2)
          · refine pv_if_ne (tgt := 98) dX10_laySteady_78 (by decide) ?_ ?_
            · refine pv_aload_n dX10_laySteady_98 rfl ?_
              refine pv_iconst (v := 1) dX10_laySteady_99 (by decide) ?_
              refine pv_aload_n dX10_laySteady_100 rfl ?_
              refine pv_getr dX10_laySteady_101 fl_X10_37 sh_50 rfl ?_
              refine pv_iload dX10_laySteady_104 rfl ?_
              refine pv_iald dX10_laySteady_106 sh_60 ?_
              refine pv_iload dX10_laySteady_107 rfl ?_
              refine pv_cv_ri (rest := [.int v25.2.1]) dX10_laySteady_109 my_X10_placeOf vl_X10_146 (k_X10_placeOf l (1 : Int32) (m2 60 (Int32.toNatClampNeg v25.2.2.1)) v25.2.2.1 m2) sh_50 rfl rfl ⟨rfl, rfl, Nat.le_of_ble_eq_true rfl, Nat.le_of_ble_eq_true rfl⟩ ⟨Nat.zero_le _, Nat.zero_le _⟩ (Nat.le_of_ble_eq_true rfl) rfl (fun r6 => ?_)
              refine pv_mask (ls' := [some (.ref 50), some (.int p1), some (.int v8.1), some (.int v8.2.1), some (.int v8.2.2.1), some (.int x3), none, some (.int v25.2.2.1)]) [true, true, true, true, true, true, false, true] rfl ?_
              exact hj112 r6
            · refine pv_aload_n dX10_laySteady_81 rfl ?_
              refine pv_iconst (v := 0) dX10_laySteady_82 (by decide) ?_
              refine pv_iload dX10_laySteady_83 rfl ?_
              refine pv_aload_n dX10_laySteady_85 rfl ?_
              refine pv_getr dX10_laySteady_86 fl_X10_37 sh_50 rfl ?_
              refine pv_iload dX10_laySteady_89 rfl ?_
              refine pv_iald dX10_laySteady_91 sh_60 ?_
              refine pv_cv_ri (rest := [.int v25.2.1]) dX10_laySteady_92 my_X10_placeOf vl_X10_146 (k_X10_placeOf l (0 : Int32) v25.2.2.1 (m2 60 (Int32.toNatClampNeg v25.2.2.1)) m2) sh_50 rfl rfl ⟨rfl, rfl, Nat.le_of_ble_eq_true rfl, Nat.le_of_ble_eq_true rfl⟩ ⟨Nat.zero_le _, Nat.zero_le _⟩ (Nat.le_of_ble_eq_true rfl) rfl (fun r7 => ?_)
              refine pv_goto (tgt := 112) dX10_laySteady_95 (by decide) ?_
              refine pv_mask (ls' := [some (.ref 50), some (.int p1), some (.int v8.1), some (.int v8.2.1), some (.int v8.2.2.1), some (.int x3), none, some (.int v25.2.2.1)]) [true, true, true, true, true, true, false, true] rfl ?_
              exact hj112 r7
def f_X10_steady (μ : pm_M) : Option (Int32 × pm_M) :=
  (f_X10_laySteady (0 : Int32) μ).bind (fun r1 => (some (r1.1, r1.2)))
abbrev rm_X10_steady : Room := { frames := 3, cells := 0, slots := 0, locals := 74 }
set_option maxRecDepth 20000 in
set_option maxHeartbeats 2000000 in
theorem k_X10_steady (l : Launch) (μ : pm_M) : pm_Ok l yX10_steady cX10_steady 1 (some .int) rm_X10_steady [.ref 50] SH false SH 0 0 (fun r => (some (.int r.1), r.2)) μ (f_X10_steady μ) := by
  refine pm_enter (own := RX10) (by decide) rfl (fun h => by cases h) (ls := [some (.ref 50)]) rfl (fun _ => Nat.le_of_ble_eq_true rfl) ?_
  unfold f_X10_steady
  refine pv_aload_n dX10_steady_0 rfl ?_
  refine pv_iconst (v := 0) dX10_steady_1 (by decide) ?_
  refine pv_cv_wi (rest := []) dX10_steady_2 my_X10_laySteady vl_X10_154 (k_X10_laySteady l (0 : Int32) μ) sh_50 rfl rfl ⟨rfl, rfl, Nat.le_of_ble_eq_true rfl, Nat.le_of_ble_eq_true rfl⟩ ⟨Nat.zero_le _, Nat.zero_le _⟩ (Nat.le_of_ble_eq_true rfl) rfl (fun r1 => ?_)
  exact pv_iret dX10_steady_5 rfl rfl rfl
def f_X10_wed_b45 (p1 : Int32) (p2 : Int32) (r4 : (Int32 × pm_M)) (v45 : (Int32 × Int32)) (T45 : ((Int32 × Int32) → Option (Int32 × pm_M))) (E45 : (Int32 → Option (Int32 × pm_M))) : Option (Int32 × pm_M) :=
  (if (4 : Int32) ≤ v45.2 then (E45 v45.1) else (pm_jn (fun (a5 : Int32) => (T45 (a5, (v45.2 + 1)))) (fun j82 => (if p1 = 0 then pm_ck p2 4 ((j82 (r4.2 62 (Int32.toNatClampNeg p2)))) else pm_ck v45.2 4 ((if (r4.2 62 (Int32.toNatClampNeg v45.2)) = p2 then (j82 v45.2) else (j82 v45.1)))))))
def f_X10_wed (p1 : Int32) (p2 : Int32) (p3 : Int32) (μ : pm_M) : Option (Int32 × pm_M) :=
  (f_X10_in p1 (0 : Int32) (1 : Int32)).bind (fun r1 => (if r1 = 0 then (some ((-1 : Int32), μ)) else (f_X10_in p2 (0 : Int32) (3 : Int32)).bind (fun r2 => (if r2 = 0 then (some ((-1 : Int32), μ)) else (f_X10_in p3 (0 : Int32) (1 : Int32)).bind (fun r3 => (if r3 = 0 then (some ((-2 : Int32), μ)) else (f_X10_laySteady p3 μ).bind (fun r4 => (pm_it (f_X10_wed_b45 p1 p2 r4) 5000 ((-6 : Int32), (0 : Int32)) (fun e45 => (some (e45, r4.2)))))))))))
abbrev rm_X10_wed : Room := { frames := 3, cells := 0, slots := 0, locals := 74 }
set_option maxRecDepth 20000 in
set_option maxHeartbeats 2000000 in
theorem k_X10_wed (l : Launch) (p1 : Int32) (p2 : Int32) (p3 : Int32) (μ : pm_M) : pm_Ok l yX10_wed cX10_wed 6 (some .int) rm_X10_wed [.ref 50, .int p1, .int p2, .int p3] SH false SH 0 0 (fun r => (some (.int r.1), r.2)) μ (f_X10_wed p1 p2 p3 μ) := by
  refine pm_enter (own := RX10) (by decide) rfl (fun h => by cases h) (ls := [some (.ref 50), some (.int p1), some (.int p2), some (.int p3), none, none]) rfl (fun _ => Nat.le_of_ble_eq_true rfl) ?_
  unfold f_X10_wed
  refine pv_iload_n dX10_wed_0 rfl ?_
  refine pv_iconst (v := 0) dX10_wed_1 (by decide) ?_
  refine pv_iconst (v := 1) dX10_wed_2 (by decide) ?_
  refine pv_cs_ri (rest := []) dX10_wed_3 my_X10_in sl_X10_62 (k_X10_in l SH p1 (0 : Int32) (1 : Int32) μ) rfl ⟨rfl, rfl, Nat.le_of_ble_eq_true rfl, Nat.le_of_ble_eq_true rfl⟩ ⟨Nat.zero_le _, Nat.zero_le _⟩ (Nat.le_of_ble_eq_true rfl) rfl (fun r1 => ?_)
  refine pv_if_eq (tgt := 18) dX10_wed_6 (by decide) ?_ ?_
  · refine pv_iconst (v := (-1)) dX10_wed_18 (by decide) ?_
    exact pv_iret dX10_wed_19 rfl rfl rfl
  · refine pv_iload_n dX10_wed_9 rfl ?_
    refine pv_iconst (v := 0) dX10_wed_10 (by decide) ?_
    refine pv_iconst (v := 3) dX10_wed_11 (by decide) ?_
    refine pv_cs_ri (rest := []) dX10_wed_12 my_X10_in sl_X10_62 (k_X10_in l SH p2 (0 : Int32) (3 : Int32) μ) rfl ⟨rfl, rfl, Nat.le_of_ble_eq_true rfl, Nat.le_of_ble_eq_true rfl⟩ ⟨Nat.zero_le _, Nat.zero_le _⟩ (Nat.le_of_ble_eq_true rfl) rfl (fun r2 => ?_)
    refine pv_if_ne (tgt := 20) dX10_wed_15 (by decide) ?_ ?_
    · refine pv_iload_n dX10_wed_20 rfl ?_
      refine pv_iconst (v := 0) dX10_wed_21 (by decide) ?_
      refine pv_iconst (v := 1) dX10_wed_22 (by decide) ?_
      refine pv_cs_ri (rest := []) dX10_wed_23 my_X10_in sl_X10_62 (k_X10_in l SH p3 (0 : Int32) (1 : Int32) μ) rfl ⟨rfl, rfl, Nat.le_of_ble_eq_true rfl, Nat.le_of_ble_eq_true rfl⟩ ⟨Nat.zero_le _, Nat.zero_le _⟩ (Nat.le_of_ble_eq_true rfl) rfl (fun r3 => ?_)
      refine pv_if_ne (tgt := 32) dX10_wed_26 (by decide) ?_ ?_
      · refine pv_aload_n dX10_wed_32 rfl ?_
        refine pv_iload_n dX10_wed_33 rfl ?_
        refine pv_cv_wi (rest := []) dX10_wed_34 my_X10_laySteady vl_X10_154 (k_X10_laySteady l p3 μ) sh_50 rfl rfl ⟨rfl, rfl, Nat.le_of_ble_eq_true rfl, Nat.le_of_ble_eq_true rfl⟩ ⟨Nat.zero_le _, Nat.zero_le _⟩ (Nat.le_of_ble_eq_true rfl) rfl (fun r4 => ?_)
        refine pv_pop dX10_wed_37 rfl ?_
        refine pv_bipush (v := (-6)) dX10_wed_38 (by decide) ?_
        refine pv_istore (ls' := [some (.ref 50), some (.int p1), some (.int p2), some (.int p3), some (.int (-6 : Int32)), none]) dX10_wed_40 (Nat.le_of_ble_eq_true rfl) rfl ?_
        refine pv_iconst (v := 0) dX10_wed_42 (by decide) ?_
        refine pv_istore (ls' := [some (.ref 50), some (.int p1), some (.int p2), some (.int p3), some (.int (-6 : Int32)), some (.int (0 : Int32))]) dX10_wed_43 (Nat.le_of_ble_eq_true rfl) rfl ?_
        refine pv_mask (ls' := [some (.ref 50), some (.int p1), some (.int p2), none, some (.int (-6 : Int32)), some (.int (0 : Int32))]) [true, true, true, false, true, true] rfl ?_
        refine pv_loop (body := (f_X10_wed_b45 p1 p2 r4)) (pcE := 90) (lsf := fun v45 => [some (.ref 50), some (.int p1), some (.int p2), none, some (.int v45.1), some (.int v45.2)]) (mf := fun v45 => r4.2) (lsE := fun e45 => [none, none, none, none, some (.int e45), none]) (mE := fun e45 => r4.2) (fun e45 => ?_) (fun E45 hE45 T45 hT45 v45 => ?_) 5000 ((-6 : Int32), (0 : Int32))
        · refine pv_iload dX10_wed_90 rfl ?_
          exact pv_iret dX10_wed_92 rfl rfl rfl
        · unfold f_X10_wed_b45
          refine pv_iload dX10_wed_45 rfl ?_
          refine pv_iconst (v := 4) dX10_wed_47 (by decide) ?_
          refine pv_icmp_ge (tgt := 90) dX10_wed_48 (by decide) ?_ ?_
          · refine pv_mask (ls' := [none, none, none, none, some (.int v45.1), none]) [false, false, false, false, true, false] rfl ?_
            exact hE45 v45.1
          · refine pv_iload_n dX10_wed_51 rfl ?_
            refine pv_jn (pcJ := 82) (lsJ := fun a5 => [some (.ref 50), some (.int p1), some (.int p2), none, none, some (.int v45.2)]) (stJ := fun a5 => [.int a5]) (mJ := fun a5 => r4.2) (fun a5 => ?_) (fun j82 hj82 => ?_)
            · refine pv_istore (ls' := [some (.ref 50), some (.int p1), some (.int p2), none, some (.int a5), some (.int v45.2)]) dX10_wed_82 (Nat.le_of_ble_eq_true rfl) rfl ?_
              refine pv_iinc (v := (v45.2 + 1)) (ls' := [some (.ref 50), some (.int p1), some (.int p2), none, some (.int a5), some (.int (v45.2 + 1))]) dX10_wed_84 rfl rfl (Nat.le_of_ble_eq_true rfl) rfl ?_
              refine pv_goto (tgt := 45) dX10_wed_87 (by decide) ?_
              exact hT45 (a5, (v45.2 + 1))
            · refine pv_if_ne (tgt := 64) dX10_wed_52 (by decide) ?_ ?_
              · refine pv_aload_n dX10_wed_64 rfl ?_
                refine pv_getr dX10_wed_65 fl_X10_43 sh_50 rfl ?_
                refine pv_iload dX10_wed_68 rfl ?_
                refine pv_iald dX10_wed_70 sh_62 ?_
                refine pv_iload_n dX10_wed_71 rfl ?_
                refine pv_icmp_ne (tgt := 80) dX10_wed_72 (by decide) ?_ ?_
                · refine pv_iload dX10_wed_80 rfl ?_
                  refine pv_mask (ls' := [some (.ref 50), some (.int p1), some (.int p2), none, none, some (.int v45.2)]) [true, true, true, false, false, true] rfl ?_
                  exact hj82 v45.1
                · refine pv_iload dX10_wed_75 rfl ?_
                  refine pv_goto (tgt := 82) dX10_wed_77 (by decide) ?_
                  refine pv_mask (ls' := [some (.ref 50), some (.int p1), some (.int p2), none, none, some (.int v45.2)]) [true, true, true, false, false, true] rfl ?_
                  exact hj82 v45.2
              · refine pv_aload_n dX10_wed_55 rfl ?_
                refine pv_getr dX10_wed_56 fl_X10_43 sh_50 rfl ?_
                refine pv_iload_n dX10_wed_59 rfl ?_
                refine pv_iald dX10_wed_60 sh_62 ?_
                refine pv_goto (tgt := 82) dX10_wed_61 (by decide) ?_
                refine pv_mask (ls' := [some (.ref 50), some (.int p1), some (.int p2), none, none, some (.int v45.2)]) [true, true, true, false, false, true] rfl ?_
                exact hj82 (r4.2 62 (Int32.toNatClampNeg p2))
      · refine pv_bipush (v := (-2)) dX10_wed_29 (by decide) ?_
        exact pv_iret dX10_wed_31 rfl rfl rfl
    · refine pv_iconst (v := (-1)) dX10_wed_18 (by decide) ?_
      exact pv_iret dX10_wed_19 rfl rfl rfl
def f_X10_seen (p1 : Int32) (p2 : Int32) (p3 : Int32) (μ : pm_M) : Option (Int32 × pm_M) :=
  (f_X10_in p1 (0 : Int32) (5 : Int32)).bind (fun r1 => (if r1 = 0 then (some ((-2 : Int32), μ)) else (f_X10_in p2 (0 : Int32) (99 : Int32)).bind (fun r2 => (if r2 = 0 then (some ((-2 : Int32), μ)) else (if (μ 50 4) = (8 : Int32) then (some ((-4 : Int32), μ)) else pm_ck ((3 : Int32) * (μ 50 4)) 24 (pm_let (pm_up μ 55 (Int32.toNatClampNeg ((3 : Int32) * (μ 50 4))) p1) (fun m3 => pm_ck (((3 : Int32) * (m3 50 4)) + (1 : Int32)) 24 (pm_let (pm_up m3 55 (Int32.toNatClampNeg (((3 : Int32) * (m3 50 4)) + (1 : Int32))) p2) (fun m4 => (pm_jn (fun (a5 : Int32) => pm_ck (((3 : Int32) * (m4 50 4)) + (2 : Int32)) 24 (pm_let (pm_up m4 55 (Int32.toNatClampNeg (((3 : Int32) * (m4 50 4)) + (2 : Int32))) a5) (fun m6 => pm_let (pm_up m6 50 4 ((m6 50 4) + (1 : Int32))) (fun m7 => (some ((m7 50 4), m7)))))) (fun j81 => (if p3 = 0 then (j81 (0 : Int32)) else (j81 (1 : Int32))))))))))))))
abbrev rm_X10_seen : Room := { frames := 1, cells := 0, slots := 0, locals := 22 }
set_option maxRecDepth 20000 in
set_option maxHeartbeats 2000000 in
theorem k_X10_seen (l : Launch) (p1 : Int32) (p2 : Int32) (p3 : Int32) (μ : pm_M) : pm_Ok l yX10_seen cX10_seen 4 (some .int) rm_X10_seen [.ref 50, .int p1, .int p2, .int p3] SH false SH 0 0 (fun r => (some (.int r.1), r.2)) μ (f_X10_seen p1 p2 p3 μ) := by
  refine pm_enter (own := RX10) (by decide) rfl (fun h => by cases h) (ls := [some (.ref 50), some (.int p1), some (.int p2), some (.int p3)]) rfl (fun _ => Nat.le_of_ble_eq_true rfl) ?_
  unfold f_X10_seen
  refine pv_iload_n dX10_seen_0 rfl ?_
  refine pv_iconst (v := 0) dX10_seen_1 (by decide) ?_
  refine pv_iconst (v := 5) dX10_seen_2 (by decide) ?_
  refine pv_cs_ri (rest := []) dX10_seen_3 my_X10_in sl_X10_62 (k_X10_in l SH p1 (0 : Int32) (5 : Int32) μ) rfl ⟨rfl, rfl, Nat.le_of_ble_eq_true rfl, Nat.le_of_ble_eq_true rfl⟩ ⟨Nat.zero_le _, Nat.zero_le _⟩ (Nat.le_of_ble_eq_true rfl) rfl (fun r1 => ?_)
  refine pv_if_eq (tgt := 19) dX10_seen_6 (by decide) ?_ ?_
  · refine pv_bipush (v := (-2)) dX10_seen_19 (by decide) ?_
    exact pv_iret dX10_seen_21 rfl rfl rfl
  · refine pv_iload_n dX10_seen_9 rfl ?_
    refine pv_iconst (v := 0) dX10_seen_10 (by decide) ?_
    refine pv_bipush (v := 99) dX10_seen_11 (by decide) ?_
    refine pv_cs_ri (rest := []) dX10_seen_13 my_X10_in sl_X10_62 (k_X10_in l SH p2 (0 : Int32) (99 : Int32) μ) rfl ⟨rfl, rfl, Nat.le_of_ble_eq_true rfl, Nat.le_of_ble_eq_true rfl⟩ ⟨Nat.zero_le _, Nat.zero_le _⟩ (Nat.le_of_ble_eq_true rfl) rfl (fun r2 => ?_)
    refine pv_if_ne (tgt := 22) dX10_seen_16 (by decide) ?_ ?_
    · refine pv_aload_n dX10_seen_22 rfl ?_
      refine pv_geti dX10_seen_23 fl_X10_157 sh_50 rfl ?_
      refine pv_bipush (v := 8) dX10_seen_26 (by decide) ?_
      refine pv_icmp_ne (tgt := 34) dX10_seen_28 (by decide) ?_ ?_
      · refine pv_aload_n dX10_seen_34 rfl ?_
        refine pv_getr dX10_seen_35 fl_X10_22 sh_50 rfl ?_
        refine pv_iconst (v := 3) dX10_seen_38 (by decide) ?_
        refine pv_aload_n dX10_seen_39 rfl ?_
        refine pv_geti dX10_seen_40 fl_X10_157 sh_50 rfl ?_
        refine pv_imul dX10_seen_43 ?_
        refine pv_iload_n dX10_seen_44 rfl ?_
        refine pv_iast dX10_seen_45 sh_55 ?_
        refine pv_letM (fun m3 => ?_)
        refine pv_aload_n dX10_seen_46 rfl ?_
        refine pv_getr dX10_seen_47 fl_X10_22 sh_50 rfl ?_
        refine pv_iconst (v := 3) dX10_seen_50 (by decide) ?_
        refine pv_aload_n dX10_seen_51 rfl ?_
        refine pv_geti dX10_seen_52 fl_X10_157 sh_50 rfl ?_
        refine pv_imul dX10_seen_55 ?_
        refine pv_iconst (v := 1) dX10_seen_56 (by decide) ?_
        refine pv_iadd dX10_seen_57 ?_
        refine pv_iload_n dX10_seen_58 rfl ?_
        refine pv_iast dX10_seen_59 sh_55 ?_
        refine pv_letM (fun m4 => ?_)
        refine pv_aload_n dX10_seen_60 rfl ?_
        refine pv_getr dX10_seen_61 fl_X10_22 sh_50 rfl ?_
        refine pv_iconst (v := 3) dX10_seen_64 (by decide) ?_
        refine pv_aload_n dX10_seen_65 rfl ?_
        refine pv_geti dX10_seen_66 fl_X10_157 sh_50 rfl ?_
        refine pv_imul dX10_seen_69 ?_
        refine pv_iconst (v := 2) dX10_seen_70 (by decide) ?_
        refine pv_iadd dX10_seen_71 ?_
        refine pv_iload_n dX10_seen_72 rfl ?_
        refine pv_jn (pcJ := 81) (lsJ := fun a5 => [some (.ref 50), none, none, none]) (stJ := fun a5 => [.int a5, .int (((3 : Int32) * (m4 50 4)) + (2 : Int32)), .ref 55]) (mJ := fun a5 => m4) (fun a5 => ?_) (fun j81 hj81 => ?_)
        · refine pv_iast dX10_seen_81 sh_55 ?_
          refine pv_letM (fun m6 => ?_)
          refine pv_aload_n dX10_seen_82 rfl ?_
          refine pv_dup dX10_seen_83 rfl ?_
          refine pv_geti dX10_seen_84 fl_X10_157 sh_50 rfl ?_
          refine pv_iconst (v := 1) dX10_seen_87 (by decide) ?_
          refine pv_iadd dX10_seen_88 ?_
          refine pv_puti dX10_seen_89 fp_X10_157 sh_50 rfl rfl rfl ?_
          refine pv_letM (fun m7 => ?_)
          refine pv_aload_n dX10_seen_92 rfl ?_
          refine pv_geti dX10_seen_93 fl_X10_157 sh_50 rfl ?_
          exact pv_iret dX10_seen_96 rfl rfl rfl
        · refine pv_if_eq (tgt := 80) dX10_seen_73 (by decide) ?_ ?_
          · refine pv_iconst (v := 0) dX10_seen_80 (by decide) ?_
            refine pv_mask (ls' := [some (.ref 50), none, none, none]) [true, false, false, false] rfl ?_
            exact hj81 (0 : Int32)
          · refine pv_iconst (v := 1) dX10_seen_76 (by decide) ?_
            refine pv_goto (tgt := 81) dX10_seen_77 (by decide) ?_
            refine pv_mask (ls' := [some (.ref 50), none, none, none]) [true, false, false, false] rfl ?_
            exact hj81 (1 : Int32)
      · refine pv_bipush (v := (-4)) dX10_seen_31 (by decide) ?_
        exact pv_iret dX10_seen_33 rfl rfl rfl
    · refine pv_bipush (v := (-2)) dX10_seen_19 (by decide) ?_
      exact pv_iret dX10_seen_21 rfl rfl rfl
def f_X10_forget (μ : pm_M) : Option (Int32 × pm_M) :=
  pm_let (μ 50 4) (fun x1 => pm_let (pm_up μ 50 4 (0 : Int32)) (fun m2 => (some (x1, m2))))
abbrev rm_X10_forget : Room := { frames := 0, cells := 0, slots := 0, locals := 0 }
set_option maxRecDepth 20000 in
set_option maxHeartbeats 2000000 in
theorem k_X10_forget (l : Launch) (μ : pm_M) : pm_Ok l yX10_forget cX10_forget 2 (some .int) rm_X10_forget [.ref 50] SH false SH 0 0 (fun r => (some (.int r.1), r.2)) μ (f_X10_forget μ) := by
  refine pm_enter (own := RX10) (by decide) rfl (fun h => by cases h) (ls := [some (.ref 50), none]) rfl (fun _ => Nat.le_of_ble_eq_true rfl) ?_
  unfold f_X10_forget
  refine pv_aload_n dX10_forget_0 rfl ?_
  refine pv_geti dX10_forget_1 fl_X10_157 sh_50 rfl ?_
  refine pv_let (fun x1 => ?_)
  refine pv_istore_n (ls' := [some (.ref 50), some (.int x1)]) dX10_forget_4 (Nat.le_of_ble_eq_true rfl) rfl ?_
  refine pv_aload_n dX10_forget_5 rfl ?_
  refine pv_iconst (v := 0) dX10_forget_6 (by decide) ?_
  refine pv_puti dX10_forget_7 fp_X10_157 sh_50 rfl rfl rfl ?_
  refine pv_letM (fun m2 => ?_)
  refine pv_iload_n dX10_forget_10 rfl ?_
  exact pv_iret dX10_forget_11 rfl rfl rfl
def f_X10_isDown (p0 : Int32) (p1 : Int32) (p2 : Int32) : Option Int32 :=
  (f_X10_in p2 (p0 / (10 : Int32)) ((p0 / (10 : Int32)) + (p1 * (pm_rem p0 (10 : Int32))))).bind (fun r1 => (if r1 = 0 ∨ r1 = 1 then some r1 else none))
abbrev rm_X10_isDown : Room := { frames := 1, cells := 0, slots := 0, locals := 22 }
set_option maxRecDepth 20000 in
set_option maxHeartbeats 2000000 in
theorem k_X10_isDown (l : Launch) (sh : pm_S) (p0 : Int32) (p1 : Int32) (p2 : Int32) (μ : pm_M) : pm_Ok l yX10_isDown cX10_isDown 3 (some .boolean) rm_X10_isDown [.int p0, .int p1, .int p2] sh false sh 0 0 (fun r => (some (.int r), μ)) μ (f_X10_isDown p0 p1 p2) := by
  refine pm_enter (own := RX10) (by decide) rfl (fun h => by cases h) (ls := [some (.int p0), some (.int p1), some (.int p2)]) rfl (fun _ => Nat.le_of_ble_eq_true rfl) ?_
  unfold f_X10_isDown
  refine pv_iload_n dX10_isDown_0 rfl ?_
  refine pv_iload_n dX10_isDown_1 rfl ?_
  refine pv_bipush (v := 10) dX10_isDown_2 (by decide) ?_
  refine pv_idiv dX10_isDown_4 (by decide) ?_
  refine pv_iload_n dX10_isDown_5 rfl ?_
  refine pv_bipush (v := 10) dX10_isDown_6 (by decide) ?_
  refine pv_idiv dX10_isDown_8 (by decide) ?_
  refine pv_iload_n dX10_isDown_9 rfl ?_
  refine pv_iload_n dX10_isDown_10 rfl ?_
  refine pv_bipush (v := 10) dX10_isDown_11 (by decide) ?_
  refine pv_irem dX10_isDown_13 (by decide) ?_
  refine pv_imul dX10_isDown_14 ?_
  refine pv_iadd dX10_isDown_15 ?_
  refine pv_cs_ri (rest := []) dX10_isDown_16 my_X10_in sl_X10_62 (k_X10_in l sh p2 (p0 / (10 : Int32)) ((p0 / (10 : Int32)) + (p1 * (pm_rem p0 (10 : Int32)))) μ) rfl ⟨rfl, rfl, Nat.le_of_ble_eq_true rfl, Nat.le_of_ble_eq_true rfl⟩ ⟨Nat.zero_le _, Nat.zero_le _⟩ (Nat.le_of_ble_eq_true rfl) rfl (fun r1 => ?_)
  exact pv_zret (ty := .boolean) dX10_isDown_19 rfl rfl
def f_X10_isFit_b4 (p1 : Int32) (μ : pm_M) (v4 : (Int32 × Int32)) (T4 : ((Int32 × Int32) → Option Int32)) (E4 : (Int32 → Option Int32)) : Option Int32 :=
  (if (μ 50 4) ≤ v4.2 then (E4 v4.1) else (if v4.1 = 0 then (E4 v4.1) else pm_ck ((3 : Int32) * v4.2) 24 (pm_ck (((3 : Int32) * v4.2) + (1 : Int32)) 24 ((f_X10_isDown p1 (μ 55 (Int32.toNatClampNeg ((3 : Int32) * v4.2))) (μ 55 (Int32.toNatClampNeg (((3 : Int32) * v4.2) + (1 : Int32))))).bind (fun r1 => pm_ck (((3 : Int32) * v4.2) + (2 : Int32)) 24 ((pm_jn (fun (a2 : Int32) => (pm_jn (fun (a3 : Int32) => (T4 (a3, (v4.2 + 1)))) (fun j65 => (if r1 = a2 then (j65 (1 : Int32)) else (j65 (0 : Int32)))))) (fun j57 => (if (μ 55 (Int32.toNatClampNeg (((3 : Int32) * v4.2) + (2 : Int32)))) = (1 : Int32) then (j57 (1 : Int32)) else (j57 (0 : Int32)))))))))))
def f_X10_isFit (p1 : Int32) (μ : pm_M) : Option Int32 :=
  (pm_it (f_X10_isFit_b4 p1 μ) 5000 ((1 : Int32), (0 : Int32)) (fun e4 => (if e4 = 0 ∨ e4 = 1 then some e4 else none)))
abbrev rm_X10_isFit : Room := { frames := 2, cells := 0, slots := 0, locals := 44 }
set_option maxRecDepth 20000 in
set_option maxHeartbeats 2000000 in
theorem k_X10_isFit (l : Launch) (p1 : Int32) (μ : pm_M) : pm_Ok l yX10_isFit cX10_isFit 4 (some .boolean) rm_X10_isFit [.ref 50, .int p1] SH false SH 0 0 (fun r => (some (.int r), μ)) μ (f_X10_isFit p1 μ) := by
  refine pm_enter (own := RX10) (by decide) rfl (fun h => by cases h) (ls := [some (.ref 50), some (.int p1), none, none]) rfl (fun _ => Nat.le_of_ble_eq_true rfl) ?_
  unfold f_X10_isFit
  refine pv_iconst (v := 1) dX10_isFit_0 (by decide) ?_
  refine pv_istore_n (ls' := [some (.ref 50), some (.int p1), some (.int (1 : Int32)), none]) dX10_isFit_1 (Nat.le_of_ble_eq_true rfl) rfl ?_
  refine pv_iconst (v := 0) dX10_isFit_2 (by decide) ?_
  refine pv_istore_n (ls' := [some (.ref 50), some (.int p1), some (.int (1 : Int32)), some (.int (0 : Int32))]) dX10_isFit_3 (Nat.le_of_ble_eq_true rfl) rfl ?_
  refine pv_loop (body := (f_X10_isFit_b4 p1 μ)) (pcE := 72) (lsf := fun v4 => [some (.ref 50), some (.int p1), some (.int v4.1), some (.int v4.2)]) (mf := fun v4 => μ) (lsE := fun e4 => [none, none, some (.int e4), none]) (mE := fun e4 => μ) (fun e4 => ?_) (fun E4 hE4 T4 hT4 v4 => ?_) 5000 ((1 : Int32), (0 : Int32))
  · refine pv_iload_n dX10_isFit_72 rfl ?_
    exact pv_zret (ty := .boolean) dX10_isFit_73 rfl rfl
  · unfold f_X10_isFit_b4
    refine pv_iload_n dX10_isFit_4 rfl ?_
    refine pv_aload_n dX10_isFit_5 rfl ?_
    refine pv_geti dX10_isFit_6 fl_X10_157 sh_50 rfl ?_
    refine pv_icmp_ge (tgt := 72) dX10_isFit_9 (by decide) ?_ ?_
    · refine pv_mask (ls' := [none, none, some (.int v4.1), none]) [false, false, true, false] rfl ?_
      exact hE4 v4.1
    · refine pv_iload_n dX10_isFit_12 rfl ?_
      refine pv_if_eq (tgt := 72) dX10_isFit_13 (by decide) ?_ ?_
      · refine pv_mask (ls' := [none, none, some (.int v4.1), none]) [false, false, true, false] rfl ?_
        exact hE4 v4.1
      · refine pv_iload_n dX10_isFit_16 rfl ?_
        refine pv_aload_n dX10_isFit_17 rfl ?_
        refine pv_getr dX10_isFit_18 fl_X10_22 sh_50 rfl ?_
        refine pv_iconst (v := 3) dX10_isFit_21 (by decide) ?_
        refine pv_iload_n dX10_isFit_22 rfl ?_
        refine pv_imul dX10_isFit_23 ?_
        refine pv_iald dX10_isFit_24 sh_55 ?_
        refine pv_aload_n dX10_isFit_25 rfl ?_
        refine pv_getr dX10_isFit_26 fl_X10_22 sh_50 rfl ?_
        refine pv_iconst (v := 3) dX10_isFit_29 (by decide) ?_
        refine pv_iload_n dX10_isFit_30 rfl ?_
        refine pv_imul dX10_isFit_31 ?_
        refine pv_iconst (v := 1) dX10_isFit_32 (by decide) ?_
        refine pv_iadd dX10_isFit_33 ?_
        refine pv_iald dX10_isFit_34 sh_55 ?_
        refine pv_cs_ri (rest := []) dX10_isFit_35 my_X10_isDown sl_X10_160 (k_X10_isDown l SH p1 (μ 55 (Int32.toNatClampNeg ((3 : Int32) * v4.2))) (μ 55 (Int32.toNatClampNeg (((3 : Int32) * v4.2) + (1 : Int32)))) μ) rfl ⟨rfl, rfl, Nat.le_of_ble_eq_true rfl, Nat.le_of_ble_eq_true rfl⟩ ⟨Nat.zero_le _, Nat.zero_le _⟩ (Nat.le_of_ble_eq_true rfl) rfl (fun r1 => ?_)
        refine pv_aload_n dX10_isFit_38 rfl ?_
        refine pv_getr dX10_isFit_39 fl_X10_22 sh_50 rfl ?_
        refine pv_iconst (v := 3) dX10_isFit_42 (by decide) ?_
        refine pv_iload_n dX10_isFit_43 rfl ?_
        refine pv_imul dX10_isFit_44 ?_
        refine pv_iconst (v := 2) dX10_isFit_45 (by decide) ?_
        refine pv_iadd dX10_isFit_46 ?_
        refine pv_iald dX10_isFit_47 sh_55 ?_
        refine pv_iconst (v := 1) dX10_isFit_48 (by decide) ?_
        refine pv_jn (pcJ := 57) (lsJ := fun a2 => [some (.ref 50), some (.int p1), none, some (.int v4.2)]) (stJ := fun a2 => [.int a2, .int r1]) (mJ := fun a2 => μ) (fun a2 => ?_) (fun j57 hj57 => ?_)
        · refine pv_jn (pcJ := 65) (lsJ := fun a3 => [some (.ref 50), some (.int p1), none, some (.int v4.2)]) (stJ := fun a3 => [.int a3]) (mJ := fun a3 => μ) (fun a3 => ?_) (fun j65 hj65 => ?_)
          · refine pv_istore_n (ls' := [some (.ref 50), some (.int p1), some (.int a3), some (.int v4.2)]) dX10_isFit_65 (Nat.le_of_ble_eq_true rfl) rfl ?_
            refine pv_iinc (v := (v4.2 + 1)) (ls' := [some (.ref 50), some (.int p1), some (.int a3), some (.int (v4.2 + 1))]) dX10_isFit_66 rfl rfl (Nat.le_of_ble_eq_true rfl) rfl ?_
            refine pv_goto (tgt := 4) dX10_isFit_69 (by decide) ?_
            exact hT4 (a3, (v4.2 + 1))
          · refine pv_icmp_ne (tgt := 64) dX10_isFit_57 (by decide) ?_ ?_
            · refine pv_iconst (v := 0) dX10_isFit_64 (by decide) ?_
              exact hj65 (0 : Int32)
            · refine pv_iconst (v := 1) dX10_isFit_60 (by decide) ?_
              refine pv_goto (tgt := 65) dX10_isFit_61 (by decide) ?_
              exact hj65 (1 : Int32)
        · refine pv_icmp_ne (tgt := 56) dX10_isFit_49 (by decide) ?_ ?_
          · refine pv_iconst (v := 0) dX10_isFit_56 (by decide) ?_
            refine pv_mask (ls' := [some (.ref 50), some (.int p1), none, some (.int v4.2)]) [true, true, false, true] rfl ?_
            exact hj57 (0 : Int32)
          · refine pv_iconst (v := 1) dX10_isFit_52 (by decide) ?_
            refine pv_goto (tgt := 57) dX10_isFit_53 (by decide) ?_
            refine pv_mask (ls' := [some (.ref 50), some (.int p1), none, some (.int v4.2)]) [true, true, false, true] rfl ?_
            exact hj57 (1 : Int32)
def f_X10_posts_b4 (p1 : Int32) (μ : pm_M) (v4 : (Int32 × Int32)) (T4 : ((Int32 × Int32) → Option Int32)) (E4 : (Int32 → Option Int32)) : Option Int32 :=
  (if (410 : Int32) ≤ v4.2 then (E4 v4.1) else (f_X10_isFit v4.2 μ).bind (fun r1 => (pm_jn (fun (a2 : Int32) => (T4 (a2, (v4.2 + 1)))) (fun j29 => (if r1 = 0 then (j29 v4.1) else (if v4.1 = p1 then (some v4.2) else (j29 (v4.1 + 1))))))))
def f_X10_posts (p1 : Int32) (μ : pm_M) : Option Int32 :=
  (pm_it (f_X10_posts_b4 p1 μ) 5000 ((0 : Int32), (0 : Int32)) (fun e4 => (if p1 = (-1 : Int32) then (some e4) else (some (-6 : Int32)))))
abbrev rm_X10_posts : Room := { frames := 3, cells := 0, slots := 0, locals := 67 }
set_option maxRecDepth 20000 in
set_option maxHeartbeats 2000000 in
theorem k_X10_posts (l : Launch) (p1 : Int32) (μ : pm_M) : pm_Ok l yX10_posts cX10_posts 4 (some .int) rm_X10_posts [.ref 50, .int p1] SH false SH 0 0 (fun r => (some (.int r), μ)) μ (f_X10_posts p1 μ) := by
  refine pm_enter (own := RX10) (by decide) rfl (fun h => by cases h) (ls := [some (.ref 50), some (.int p1), none, none]) rfl (fun _ => Nat.le_of_ble_eq_true rfl) ?_
  unfold f_X10_posts
  refine pv_iconst (v := 0) dX10_posts_0 (by decide) ?_
  refine pv_istore_n (ls' := [some (.ref 50), some (.int p1), some (.int (0 : Int32)), none]) dX10_posts_1 (Nat.le_of_ble_eq_true rfl) rfl ?_
  refine pv_iconst (v := 0) dX10_posts_2 (by decide) ?_
  refine pv_istore_n (ls' := [some (.ref 50), some (.int p1), some (.int (0 : Int32)), some (.int (0 : Int32))]) dX10_posts_3 (Nat.le_of_ble_eq_true rfl) rfl ?_
  refine pv_loop (body := (f_X10_posts_b4 p1 μ)) (pcE := 35) (lsf := fun v4 => [some (.ref 50), some (.int p1), some (.int v4.1), some (.int v4.2)]) (mf := fun v4 => μ) (lsE := fun e4 => [none, some (.int p1), some (.int e4), none]) (mE := fun e4 => μ) (fun e4 => ?_) (fun E4 hE4 T4 hT4 v4 => ?_) 5000 ((0 : Int32), (0 : Int32))
  · refine pv_iload_n dX10_posts_35 rfl ?_
    refine pv_iconst (v := (-1)) dX10_posts_36 (by decide) ?_
    refine pv_icmp_ne (tgt := 44) dX10_posts_37 (by decide) ?_ ?_
    · refine pv_bipush (v := (-6)) dX10_posts_44 (by decide) ?_
      exact pv_iret dX10_posts_46 rfl rfl rfl
    · refine pv_iload_n dX10_posts_40 rfl ?_
      refine pv_goto (tgt := 46) dX10_posts_41 (by decide) ?_
      exact pv_iret dX10_posts_46 rfl rfl rfl
  · unfold f_X10_posts_b4
    refine pv_iload_n dX10_posts_4 rfl ?_
    refine pv_sipush (v := 410) dX10_posts_5 (by decide) ?_
    refine pv_icmp_ge (tgt := 35) dX10_posts_8 (by decide) ?_ ?_
    · refine pv_mask (ls' := [none, some (.int p1), some (.int v4.1), none]) [false, true, true, false] rfl ?_
      exact hE4 v4.1
    · refine pv_aload_n dX10_posts_11 rfl ?_
      refine pv_iload_n dX10_posts_12 rfl ?_
      refine pv_cv_ri (rest := []) dX10_posts_13 my_X10_isFit vl_X10_163 (k_X10_isFit l v4.2 μ) sh_50 rfl rfl ⟨rfl, rfl, Nat.le_of_ble_eq_true rfl, Nat.le_of_ble_eq_true rfl⟩ ⟨Nat.zero_le _, Nat.zero_le _⟩ (Nat.le_of_ble_eq_true rfl) rfl (fun r1 => ?_)
      refine pv_jn (pcJ := 29) (lsJ := fun a2 => [some (.ref 50), some (.int p1), some (.int a2), some (.int v4.2)]) (stJ := fun a2 => []) (mJ := fun a2 => μ) (fun a2 => ?_) (fun j29 hj29 => ?_)
      · refine pv_iinc (v := (v4.2 + 1)) (ls' := [some (.ref 50), some (.int p1), some (.int a2), some (.int (v4.2 + 1))]) dX10_posts_29 rfl rfl (Nat.le_of_ble_eq_true rfl) rfl ?_
        refine pv_goto (tgt := 4) dX10_posts_32 (by decide) ?_
        exact hT4 (a2, (v4.2 + 1))
      · refine pv_if_eq (tgt := 29) dX10_posts_16 (by decide) ?_ ?_
        · exact hj29 v4.1
        · refine pv_iload_n dX10_posts_19 rfl ?_
          refine pv_iload_n dX10_posts_20 rfl ?_
          refine pv_icmp_ne (tgt := 26) dX10_posts_21 (by decide) ?_ ?_
          · refine pv_iinc (v := (v4.1 + 1)) (ls' := [some (.ref 50), some (.int p1), some (.int (v4.1 + 1)), some (.int v4.2)]) dX10_posts_26 rfl rfl (Nat.le_of_ble_eq_true rfl) rfl ?_
            exact hj29 (v4.1 + 1)
          · refine pv_iload_n dX10_posts_24 rfl ?_
            exact pv_iret dX10_posts_25 rfl rfl rfl
def f_X10_ask_b16  (v16 : (Int32 × Int32 × pm_M)) (T16 : ((Int32 × Int32 × pm_M) → Option (Int32 × pm_M))) (E16 : ((Int32 × pm_M) → Option (Int32 × pm_M))) : Option (Int32 × pm_M) :=
  (if (410 : Int32) ≤ v16.2.1 then (E16 (v16.1, v16.2.2)) else (f_X10_isFit v16.2.1 v16.2.2).bind (fun r2 => (pm_jn (fun (a3 : (Int32 × pm_M)) => (T16 (a3.1, (v16.2.1 + 1), a3.2))) (fun j41 => (if r2 = 0 then (j41 (v16.1, v16.2.2)) else pm_ck v16.1 410 (pm_let (pm_up v16.2.2 63 (Int32.toNatClampNeg v16.1) v16.2.1) (fun m4 => (j41 ((v16.1 + 1), m4)))))))))
def f_X10_ask_b75 (e16 : (Int32 × pm_M)) (v57 : (Int32 × Int32 × Int32)) (v75 : (Int32 × Int32)) (T75 : ((Int32 × Int32) → Option (Int32 × pm_M))) (E75 : (Int32 → Option (Int32 × pm_M))) : Option (Int32 × pm_M) :=
  (if e16.1 ≤ v75.2 then (E75 v75.1) else pm_ck v75.2 410 ((f_X10_isDown (e16.2 63 (Int32.toNatClampNeg v75.2)) (v57.2.2 / (100 : Int32)) (pm_rem v57.2.2 (100 : Int32))).bind (fun r5 => (pm_jn (fun (a6 : Int32) => pm_let (v75.1 + a6) (fun x7 => (T75 (x7, (v75.2 + 1))))) (fun j111 => (if r5 = 0 then (j111 (0 : Int32)) else (j111 (1 : Int32))))))))
def f_X10_ask_b57 (e16 : (Int32 × pm_M)) (v57 : (Int32 × Int32 × Int32)) (T57 : ((Int32 × Int32 × Int32) → Option (Int32 × pm_M))) (E57 : ((Int32 × Int32) → Option (Int32 × pm_M))) : Option (Int32 × pm_M) :=
  (if (600 : Int32) ≤ v57.2.2 then (E57 (v57.1, v57.2.1)) else (if e16.1 ≤ 0 then (E57 (v57.1, v57.2.1)) else (pm_it (f_X10_ask_b75 e16 v57) 5000 ((0 : Int32), (0 : Int32)) (fun e75 => (pm_jn (fun (a8 : Int32) => (pm_jn (fun (a9 : Int32) => (pm_jn (fun (a10 : Int32) => (T57 (a9, a10, (v57.2.2 + 1)))) (fun j168 => (if v57.2.1 ≤ a8 then (j168 v57.2.1) else (j168 a8))))) (fun j153 => (if v57.2.1 ≤ a8 then (j153 v57.1) else (j153 v57.2.2))))) (fun j138 => (if e75 ≤ (e16.1 - e75) then (j138 (e16.1 - e75)) else (j138 e75))))))))
def f_X10_ask (p1 : Int32) (μ : pm_M) : Option (Int32 × pm_M) :=
  (f_X10_in p1 (0 : Int32) (1 : Int32)).bind (fun r1 => (if r1 = 0 then (some ((-2 : Int32), μ)) else (pm_it f_X10_ask_b16 5000 ((0 : Int32), (0 : Int32), μ) (fun e16 => (pm_it (f_X10_ask_b57 e16) 5000 ((-6 : Int32), (1000000 : Int32), (0 : Int32)) (fun e57 => (if e57.1 < 0 then (some (e57.1, e16.2)) else (if p1 = 0 then (some (e57.1, e16.2)) else (some (e57.2, e16.2))))))))))
abbrev rm_X10_ask : Room := { frames := 3, cells := 0, slots := 0, locals := 67 }
set_option maxRecDepth 20000 in
set_option maxHeartbeats 2000000 in
theorem k_X10_ask (l : Launch) (p1 : Int32) (μ : pm_M) : pm_Ok l yX10_ask cX10_ask 8 (some .int) rm_X10_ask [.ref 50, .int p1] SH false SH 0 0 (fun r => (some (.int r.1), r.2)) μ (f_X10_ask p1 μ) := by
  refine pm_enter (own := RX10) (by decide) rfl (fun h => by cases h) (ls := [some (.ref 50), some (.int p1), none, none, none, none, none, none]) rfl (fun _ => Nat.le_of_ble_eq_true rfl) ?_
  unfold f_X10_ask
  refine pv_iload_n dX10_ask_0 rfl ?_
  refine pv_iconst (v := 0) dX10_ask_1 (by decide) ?_
  refine pv_iconst (v := 1) dX10_ask_2 (by decide) ?_
  refine pv_cs_ri (rest := []) dX10_ask_3 my_X10_in sl_X10_62 (k_X10_in l SH p1 (0 : Int32) (1 : Int32) μ) rfl ⟨rfl, rfl, Nat.le_of_ble_eq_true rfl, Nat.le_of_ble_eq_true rfl⟩ ⟨Nat.zero_le _, Nat.zero_le _⟩ (Nat.le_of_ble_eq_true rfl) rfl (fun r1 => ?_)
  refine pv_if_ne (tgt := 12) dX10_ask_6 (by decide) ?_ ?_
  · refine pv_iconst (v := 0) dX10_ask_12 (by decide) ?_
    refine pv_istore_n (ls' := [some (.ref 50), some (.int p1), some (.int (0 : Int32)), none, none, none, none, none]) dX10_ask_13 (Nat.le_of_ble_eq_true rfl) rfl ?_
    refine pv_iconst (v := 0) dX10_ask_14 (by decide) ?_
    refine pv_istore_n (ls' := [some (.ref 50), some (.int p1), some (.int (0 : Int32)), some (.int (0 : Int32)), none, none, none, none]) dX10_ask_15 (Nat.le_of_ble_eq_true rfl) rfl ?_
    refine pv_loop (body := f_X10_ask_b16) (pcE := 47) (lsf := fun v16 => [some (.ref 50), some (.int p1), some (.int v16.1), some (.int v16.2.1), none, none, none, none]) (mf := fun v16 => v16.2.2) (lsE := fun e16 => [some (.ref 50), some (.int p1), some (.int e16.1), none, none, none, none, none]) (mE := fun e16 => e16.2) (fun e16 => ?_) (fun E16 hE16 T16 hT16 v16 => ?_) 5000 ((0 : Int32), (0 : Int32), μ)
    · refine pv_bipush (v := (-6)) dX10_ask_47 (by decide) ?_
      refine pv_istore_n (ls' := [some (.ref 50), some (.int p1), some (.int e16.1), some (.int (-6 : Int32)), none, none, none, none]) dX10_ask_49 (Nat.le_of_ble_eq_true rfl) rfl ?_
      refine pv_ldc dX10_ask_50 kc_X10_138 ?_
      refine pv_istore (ls' := [some (.ref 50), some (.int p1), some (.int e16.1), some (.int (-6 : Int32)), some (.int (1000000 : Int32)), none, none, none]) dX10_ask_52 (Nat.le_of_ble_eq_true rfl) rfl ?_
      refine pv_iconst (v := 0) dX10_ask_54 (by decide) ?_
      refine pv_istore (ls' := [some (.ref 50), some (.int p1), some (.int e16.1), some (.int (-6 : Int32)), some (.int (1000000 : Int32)), some (.int (0 : Int32)), none, none]) dX10_ask_55 (Nat.le_of_ble_eq_true rfl) rfl ?_
      refine pv_loop (body := (f_X10_ask_b57 e16)) (pcE := 176) (lsf := fun v57 => [some (.ref 50), some (.int p1), some (.int e16.1), some (.int v57.1), some (.int v57.2.1), some (.int v57.2.2), none, none]) (mf := fun v57 => e16.2) (lsE := fun e57 => [none, some (.int p1), none, some (.int e57.1), some (.int e57.2), none, none, none]) (mE := fun e57 => e16.2) (fun e57 => ?_) (fun E57 hE57 T57 hT57 v57 => ?_) 5000 ((-6 : Int32), (1000000 : Int32), (0 : Int32))
      · refine pv_iload_n dX10_ask_176 rfl ?_
        refine pv_if_lt (tgt := 184) dX10_ask_177 (by decide) ?_ ?_
        · refine pv_iload_n dX10_ask_184 rfl ?_
          refine pv_goto (tgt := 190) dX10_ask_185 (by decide) ?_
          exact pv_iret dX10_ask_190 rfl rfl rfl
        · refine pv_iload_n dX10_ask_180 rfl ?_
          refine pv_if_ne (tgt := 188) dX10_ask_181 (by decide) ?_ ?_
          · refine pv_iload dX10_ask_188 rfl ?_
            exact pv_iret dX10_ask_190 rfl rfl rfl
          · refine pv_iload_n dX10_ask_184 rfl ?_
            refine pv_goto (tgt := 190) dX10_ask_185 (by decide) ?_
            exact pv_iret dX10_ask_190 rfl rfl rfl
      · unfold f_X10_ask_b57
        refine pv_iload dX10_ask_57 rfl ?_
        refine pv_sipush (v := 600) dX10_ask_59 (by decide) ?_
        refine pv_icmp_ge (tgt := 176) dX10_ask_62 (by decide) ?_ ?_
        · refine pv_mask (ls' := [none, some (.int p1), none, some (.int v57.1), some (.int v57.2.1), none, none, none]) [false, true, false, true, true, false, false, false] rfl ?_
          exact hE57 (v57.1, v57.2.1)
        · refine pv_iload_n dX10_ask_65 rfl ?_
          refine pv_if_le (tgt := 176) dX10_ask_66 (by decide) ?_ ?_
          · refine pv_mask (ls' := [none, some (.int p1), none, some (.int v57.1), some (.int v57.2.1), none, none, none]) [false, true, false, true, true, false, false, false] rfl ?_
            exact hE57 (v57.1, v57.2.1)
          · refine pv_iconst (v := 0) dX10_ask_69 (by decide) ?_
            refine pv_istore (ls' := [some (.ref 50), some (.int p1), some (.int e16.1), some (.int v57.1), some (.int v57.2.1), some (.int v57.2.2), some (.int (0 : Int32)), none]) dX10_ask_70 (Nat.le_of_ble_eq_true rfl) rfl ?_
            refine pv_iconst (v := 0) dX10_ask_72 (by decide) ?_
            refine pv_istore (ls' := [some (.ref 50), some (.int p1), some (.int e16.1), some (.int v57.1), some (.int v57.2.1), some (.int v57.2.2), some (.int (0 : Int32)), some (.int (0 : Int32))]) dX10_ask_73 (Nat.le_of_ble_eq_true rfl) rfl ?_
            refine pv_loop (body := (f_X10_ask_b75 e16 v57)) (pcE := 120) (lsf := fun v75 => [some (.ref 50), some (.int p1), some (.int e16.1), some (.int v57.1), some (.int v57.2.1), some (.int v57.2.2), some (.int v75.1), some (.int v75.2)]) (mf := fun v75 => e16.2) (lsE := fun e75 => [some (.ref 50), some (.int p1), some (.int e16.1), some (.int v57.1), some (.int v57.2.1), some (.int v57.2.2), some (.int e75), none]) (mE := fun e75 => e16.2) (fun e75 => ?_) (fun E75 hE75 T75 hT75 v75 => ?_) 5000 ((0 : Int32), (0 : Int32))
            · refine pv_iload dX10_ask_120 rfl ?_
              refine pv_iload_n dX10_ask_122 rfl ?_
              refine pv_iload dX10_ask_123 rfl ?_
              refine pv_isub dX10_ask_125 ?_
              refine pv_jn (pcJ := 138) (lsJ := fun a8 => [some (.ref 50), some (.int p1), some (.int e16.1), some (.int v57.1), some (.int v57.2.1), some (.int v57.2.2), none, none]) (stJ := fun a8 => [.int a8]) (mJ := fun a8 => e16.2) (fun a8 => ?_) (fun j138 hj138 => ?_)
              · refine pv_istore (ls' := [some (.ref 50), some (.int p1), some (.int e16.1), some (.int v57.1), some (.int v57.2.1), some (.int v57.2.2), none, some (.int a8)]) dX10_ask_138 (Nat.le_of_ble_eq_true rfl) rfl ?_
                refine pv_iload dX10_ask_140 rfl ?_
                refine pv_iload dX10_ask_142 rfl ?_
                refine pv_jn (pcJ := 153) (lsJ := fun a9 => [some (.ref 50), some (.int p1), some (.int e16.1), none, some (.int v57.2.1), some (.int v57.2.2), none, some (.int a8)]) (stJ := fun a9 => [.int a9]) (mJ := fun a9 => e16.2) (fun a9 => ?_) (fun j153 hj153 => ?_)
                · refine pv_istore_n (ls' := [some (.ref 50), some (.int p1), some (.int e16.1), some (.int a9), some (.int v57.2.1), some (.int v57.2.2), none, some (.int a8)]) dX10_ask_153 (Nat.le_of_ble_eq_true rfl) rfl ?_
                  refine pv_iload dX10_ask_154 rfl ?_
                  refine pv_iload dX10_ask_156 rfl ?_
                  refine pv_jn (pcJ := 168) (lsJ := fun a10 => [some (.ref 50), some (.int p1), some (.int e16.1), some (.int a9), none, some (.int v57.2.2), none, none]) (stJ := fun a10 => [.int a10]) (mJ := fun a10 => e16.2) (fun a10 => ?_) (fun j168 hj168 => ?_)
                  · refine pv_istore (ls' := [some (.ref 50), some (.int p1), some (.int e16.1), some (.int a9), some (.int a10), some (.int v57.2.2), none, none]) dX10_ask_168 (Nat.le_of_ble_eq_true rfl) rfl ?_
                    refine pv_iinc (v := (v57.2.2 + 1)) (ls' := [some (.ref 50), some (.int p1), some (.int e16.1), some (.int a9), some (.int a10), some (.int (v57.2.2 + 1)), none, none]) dX10_ask_170 rfl rfl (Nat.le_of_ble_eq_true rfl) rfl ?_
                    refine pv_goto (tgt := 57) dX10_ask_173 (by decide) ?_
                    exact hT57 (a9, a10, (v57.2.2 + 1))
                  · refine pv_icmp_ge (tgt := 166) dX10_ask_158 (by decide) ?_ ?_
                    · refine pv_iload dX10_ask_166 rfl ?_
                      refine pv_mask (ls' := [some (.ref 50), some (.int p1), some (.int e16.1), some (.int a9), none, some (.int v57.2.2), none, none]) [true, true, true, true, false, true, false, false] rfl ?_
                      exact hj168 v57.2.1
                    · refine pv_iload dX10_ask_161 rfl ?_
                      refine pv_goto (tgt := 168) dX10_ask_163 (by decide) ?_
                      refine pv_mask (ls' := [some (.ref 50), some (.int p1), some (.int e16.1), some (.int a9), none, some (.int v57.2.2), none, none]) [true, true, true, true, false, true, false, false] rfl ?_
                      exact hj168 a8
                · refine pv_icmp_ge (tgt := 152) dX10_ask_144 (by decide) ?_ ?_
                  · refine pv_iload_n dX10_ask_152 rfl ?_
                    refine pv_mask (ls' := [some (.ref 50), some (.int p1), some (.int e16.1), none, some (.int v57.2.1), some (.int v57.2.2), none, some (.int a8)]) [true, true, true, false, true, true, false, true] rfl ?_
                    exact hj153 v57.1
                  · refine pv_iload dX10_ask_147 rfl ?_
                    refine pv_goto (tgt := 153) dX10_ask_149 (by decide) ?_
                    refine pv_mask (ls' := [some (.ref 50), some (.int p1), some (.int e16.1), none, some (.int v57.2.1), some (.int v57.2.2), none, some (.int a8)]) [true, true, true, false, true, true, false, true] rfl ?_
                    exact hj153 v57.2.2
              · refine pv_icmp_le (tgt := 134) dX10_ask_126 (by decide) ?_ ?_
                · refine pv_iload_n dX10_ask_134 rfl ?_
                  refine pv_iload dX10_ask_135 rfl ?_
                  refine pv_isub dX10_ask_137 ?_
                  refine pv_mask (ls' := [some (.ref 50), some (.int p1), some (.int e16.1), some (.int v57.1), some (.int v57.2.1), some (.int v57.2.2), none, none]) [true, true, true, true, true, true, false, false] rfl ?_
                  exact hj138 (e16.1 - e75)
                · refine pv_iload dX10_ask_129 rfl ?_
                  refine pv_goto (tgt := 138) dX10_ask_131 (by decide) ?_
                  refine pv_mask (ls' := [some (.ref 50), some (.int p1), some (.int e16.1), some (.int v57.1), some (.int v57.2.1), some (.int v57.2.2), none, none]) [true, true, true, true, true, true, false, false] rfl ?_
                  exact hj138 e75
            · unfold f_X10_ask_b75
              refine pv_iload dX10_ask_75 rfl ?_
              refine pv_iload_n dX10_ask_77 rfl ?_
              refine pv_icmp_ge (tgt := 120) dX10_ask_78 (by decide) ?_ ?_
              · refine pv_mask (ls' := [some (.ref 50), some (.int p1), some (.int e16.1), some (.int v57.1), some (.int v57.2.1), some (.int v57.2.2), some (.int v75.1), none]) [true, true, true, true, true, true, true, false] rfl ?_
                exact hE75 v75.1
              · refine pv_iload dX10_ask_81 rfl ?_
                refine pv_aload_n dX10_ask_83 rfl ?_
                refine pv_getr dX10_ask_84 fl_X10_46 sh_50 rfl ?_
                refine pv_iload dX10_ask_87 rfl ?_
                refine pv_iald dX10_ask_89 sh_63 ?_
                refine pv_iload dX10_ask_90 rfl ?_
                refine pv_bipush (v := 100) dX10_ask_92 (by decide) ?_
                refine pv_idiv dX10_ask_94 (by decide) ?_
                refine pv_iload dX10_ask_95 rfl ?_
                refine pv_bipush (v := 100) dX10_ask_97 (by decide) ?_
                refine pv_irem dX10_ask_99 (by decide) ?_
                refine pv_cs_ri (rest := [.int v75.1]) dX10_ask_100 my_X10_isDown sl_X10_160 (k_X10_isDown l SH (e16.2 63 (Int32.toNatClampNeg v75.2)) (v57.2.2 / (100 : Int32)) (pm_rem v57.2.2 (100 : Int32)) e16.2) rfl ⟨rfl, rfl, Nat.le_of_ble_eq_true rfl, Nat.le_of_ble_eq_true rfl⟩ ⟨Nat.zero_le _, Nat.zero_le _⟩ (Nat.le_of_ble_eq_true rfl) rfl (fun r5 => ?_)
                refine pv_jn (pcJ := 111) (lsJ := fun a6 => [some (.ref 50), some (.int p1), some (.int e16.1), some (.int v57.1), some (.int v57.2.1), some (.int v57.2.2), none, some (.int v75.2)]) (stJ := fun a6 => [.int a6, .int v75.1]) (mJ := fun a6 => e16.2) (fun a6 => ?_) (fun j111 hj111 => ?_)
                · refine pv_iadd dX10_ask_111 ?_
                  refine pv_let (fun x7 => ?_)
                  refine pv_istore (ls' := [some (.ref 50), some (.int p1), some (.int e16.1), some (.int v57.1), some (.int v57.2.1), some (.int v57.2.2), some (.int x7), some (.int v75.2)]) dX10_ask_112 (Nat.le_of_ble_eq_true rfl) rfl ?_
                  refine pv_iinc (v := (v75.2 + 1)) (ls' := [some (.ref 50), some (.int p1), some (.int e16.1), some (.int v57.1), some (.int v57.2.1), some (.int v57.2.2), some (.int x7), some (.int (v75.2 + 1))]) dX10_ask_114 rfl rfl (Nat.le_of_ble_eq_true rfl) rfl ?_
                  refine pv_goto (tgt := 75) dX10_ask_117 (by decide) ?_
                  exact hT75 (x7, (v75.2 + 1))
                · refine pv_if_eq (tgt := 110) dX10_ask_103 (by decide) ?_ ?_
                  · refine pv_iconst (v := 0) dX10_ask_110 (by decide) ?_
                    refine pv_mask (ls' := [some (.ref 50), some (.int p1), some (.int e16.1), some (.int v57.1), some (.int v57.2.1), some (.int v57.2.2), none, some (.int v75.2)]) [true, true, true, true, true, true, false, true] rfl ?_
                    exact hj111 (0 : Int32)
                  · refine pv_iconst (v := 1) dX10_ask_106 (by decide) ?_
                    refine pv_goto (tgt := 111) dX10_ask_107 (by decide) ?_
                    refine pv_mask (ls' := [some (.ref 50), some (.int p1), some (.int e16.1), some (.int v57.1), some (.int v57.2.1), some (.int v57.2.2), none, some (.int v75.2)]) [true, true, true, true, true, true, false, true] rfl ?_
                    exact hj111 (1 : Int32)
    · unfold f_X10_ask_b16
      refine pv_iload_n dX10_ask_16 rfl ?_
      refine pv_sipush (v := 410) dX10_ask_17 (by decide) ?_
      refine pv_icmp_ge (tgt := 47) dX10_ask_20 (by decide) ?_ ?_
      · refine pv_mask (ls' := [some (.ref 50), some (.int p1), some (.int v16.1), none, none, none, none, none]) [true, true, true, false, false, false, false, false] rfl ?_
        exact hE16 (v16.1, v16.2.2)
      · refine pv_aload_n dX10_ask_23 rfl ?_
        refine pv_iload_n dX10_ask_24 rfl ?_
        refine pv_cv_ri (rest := []) dX10_ask_25 my_X10_isFit vl_X10_163 (k_X10_isFit l v16.2.1 v16.2.2) sh_50 rfl rfl ⟨rfl, rfl, Nat.le_of_ble_eq_true rfl, Nat.le_of_ble_eq_true rfl⟩ ⟨Nat.zero_le _, Nat.zero_le _⟩ (Nat.le_of_ble_eq_true rfl) rfl (fun r2 => ?_)
        refine pv_jn (pcJ := 41) (lsJ := fun a3 => [some (.ref 50), some (.int p1), some (.int a3.1), some (.int v16.2.1), none, none, none, none]) (stJ := fun a3 => []) (mJ := fun a3 => a3.2) (fun a3 => ?_) (fun j41 hj41 => ?_)
        · refine pv_iinc (v := (v16.2.1 + 1)) (ls' := [some (.ref 50), some (.int p1), some (.int a3.1), some (.int (v16.2.1 + 1)), none, none, none, none]) dX10_ask_41 rfl rfl (Nat.le_of_ble_eq_true rfl) rfl ?_
          refine pv_goto (tgt := 16) dX10_ask_44 (by decide) ?_
          exact hT16 (a3.1, (v16.2.1 + 1), a3.2)
        · refine pv_if_eq (tgt := 41) dX10_ask_28 (by decide) ?_ ?_
          · exact hj41 (v16.1, v16.2.2)
          · refine pv_aload_n dX10_ask_31 rfl ?_
            refine pv_getr dX10_ask_32 fl_X10_46 sh_50 rfl ?_
            refine pv_iload_n dX10_ask_35 rfl ?_
            refine pv_iload_n dX10_ask_36 rfl ?_
            refine pv_iast dX10_ask_37 sh_63 ?_
            refine pv_letM (fun m4 => ?_)
            refine pv_iinc (v := (v16.1 + 1)) (ls' := [some (.ref 50), some (.int p1), some (.int (v16.1 + 1)), some (.int v16.2.1), none, none, none, none]) dX10_ask_38 rfl rfl (Nat.le_of_ble_eq_true rfl) rfl ?_
            exact hj41 ((v16.1 + 1), m4)
  · refine pv_bipush (v := (-2)) dX10_ask_9 (by decide) ?_
    exact pv_iret dX10_ask_11 rfl rfl rfl
def f_X10_layWorth_b9  (v9 : (Int32 × pm_M)) (T9 : ((Int32 × pm_M) → Option pm_M)) (E9 : (pm_M → Option pm_M)) : Option pm_M :=
  (if (64 : Int32) ≤ v9.1 then (E9 v9.2) else pm_ck v9.1 64 (pm_let (pm_up v9.2 65 (Int32.toNatClampNeg v9.1) (0 : Int32)) (fun m1 => (T9 ((v9.1 + 1), m1)))))
def f_X10_layWorth_b30 (v2 : (Int32 × pm_M)) (v30 : (Int32 × pm_M)) (T30 : ((Int32 × pm_M) → Option pm_M)) (E30 : (pm_M → Option pm_M)) : Option pm_M :=
  (if v2.1 ≤ ((2 : Int32) * v30.1) then (E30 v30.2) else pm_ck v30.1 61 (pm_ck (v2.1 - v30.1) 61 (pm_ck ((v30.2 64 (Int32.toNatClampNeg v30.1)) ^^^ (v30.2 64 (Int32.toNatClampNeg (v2.1 - v30.1)))) 64 (pm_let (pm_up v30.2 65 (Int32.toNatClampNeg ((v30.2 64 (Int32.toNatClampNeg v30.1)) ^^^ (v30.2 64 (Int32.toNatClampNeg (v2.1 - v30.1))))) (1 : Int32)) (fun m2 => (T30 ((v30.1 + 1), m2)))))))
def f_X10_layWorth_b66 (e30 : pm_M) (v66 : Int32) (T66 : (Int32 → Option pm_M)) (E66 : (Int32 → Option pm_M)) : Option pm_M :=
  pm_ck v66 64 ((if (e30 65 (Int32.toNatClampNeg v66)) = 0 then (E66 v66) else (T66 (v66 + 1))))
def f_X10_layWorth_b2 (p1 : Int32) (v2 : (Int32 × pm_M)) (T2 : ((Int32 × pm_M) → Option pm_M)) (E2 : (pm_M → Option pm_M)) : Option pm_M :=
  (if p1 < v2.1 then (E2 v2.2) else (pm_it f_X10_layWorth_b9 5000 ((0 : Int32), v2.2) (fun e9 => (pm_it (f_X10_layWorth_b30 v2) 5000 ((1 : Int32), e9) (fun e30 => (pm_it (f_X10_layWorth_b66 e30) 5000 (0 : Int32) (fun e66 => pm_ck v2.1 61 (pm_let (pm_up e30 64 (Int32.toNatClampNeg v2.1) e66) (fun m3 => (T2 ((v2.1 + 1), m3)))))))))))
def f_X10_layWorth (p1 : Int32) (μ : pm_M) : Option pm_M :=
  (pm_it (f_X10_layWorth_b2 p1) 5000 ((0 : Int32), μ) (fun e2 => (some e2)))
abbrev rm_X10_layWorth : Room := { frames := 0, cells := 0, slots := 0, locals := 0 }
set_option maxRecDepth 20000 in
set_option maxHeartbeats 2000000 in
theorem k_X10_layWorth (l : Launch) (p1 : Int32) (μ : pm_M) : pm_Ok l yX10_layWorth cX10_layWorth 4 none rm_X10_layWorth [.ref 50, .int p1] SH false SH 0 0 (fun r => (none, r)) μ (f_X10_layWorth p1 μ) := by
  refine pm_enter (own := RX10) (by decide) rfl (fun h => by cases h) (ls := [some (.ref 50), some (.int p1), none, none]) rfl (fun _ => Nat.le_of_ble_eq_true rfl) ?_
  unfold f_X10_layWorth
  refine pv_iconst (v := 0) dX10_layWorth_0 (by decide) ?_
  refine pv_istore_n (ls' := [some (.ref 50), some (.int p1), some (.int (0 : Int32)), none]) dX10_layWorth_1 (Nat.le_of_ble_eq_true rfl) rfl ?_
  refine pv_loop (body := (f_X10_layWorth_b2 p1)) (pcE := 94) (lsf := fun v2 => [some (.ref 50), some (.int p1), some (.int v2.1), none]) (mf := fun v2 => v2.2) (lsE := fun e2 => [none, none, none, none]) (mE := fun e2 => e2) (fun e2 => ?_) (fun E2 hE2 T2 hT2 v2 => ?_) 5000 ((0 : Int32), μ)
  · exact pv_vret dX10_layWorth_94 rfl rfl
  · unfold f_X10_layWorth_b2
    refine pv_iload_n dX10_layWorth_2 rfl ?_
    refine pv_iload_n dX10_layWorth_3 rfl ?_
    refine pv_icmp_gt (tgt := 94) dX10_layWorth_4 (by decide) ?_ ?_
    · refine pv_mask (ls' := [none, none, none, none]) [false, false, false, false] rfl ?_
      exact hE2 v2.2
    · refine pv_iconst (v := 0) dX10_layWorth_7 (by decide) ?_
      refine pv_istore_n (ls' := [some (.ref 50), some (.int p1), some (.int v2.1), some (.int (0 : Int32))]) dX10_layWorth_8 (Nat.le_of_ble_eq_true rfl) rfl ?_
      refine pv_loop (body := f_X10_layWorth_b9) (pcE := 28) (lsf := fun v9 => [some (.ref 50), some (.int p1), some (.int v2.1), some (.int v9.1)]) (mf := fun v9 => v9.2) (lsE := fun e9 => [some (.ref 50), some (.int p1), some (.int v2.1), none]) (mE := fun e9 => e9) (fun e9 => ?_) (fun E9 hE9 T9 hT9 v9 => ?_) 5000 ((0 : Int32), v2.2)
      · refine pv_iconst (v := 1) dX10_layWorth_28 (by decide) ?_
        refine pv_istore_n (ls' := [some (.ref 50), some (.int p1), some (.int v2.1), some (.int (1 : Int32))]) dX10_layWorth_29 (Nat.le_of_ble_eq_true rfl) rfl ?_
        refine pv_loop (body := (f_X10_layWorth_b30 v2)) (pcE := 64) (lsf := fun v30 => [some (.ref 50), some (.int p1), some (.int v2.1), some (.int v30.1)]) (mf := fun v30 => v30.2) (lsE := fun e30 => [some (.ref 50), some (.int p1), some (.int v2.1), none]) (mE := fun e30 => e30) (fun e30 => ?_) (fun E30 hE30 T30 hT30 v30 => ?_) 5000 ((1 : Int32), e9)
        · refine pv_iconst (v := 0) dX10_layWorth_64 (by decide) ?_
          refine pv_istore_n (ls' := [some (.ref 50), some (.int p1), some (.int v2.1), some (.int (0 : Int32))]) dX10_layWorth_65 (Nat.le_of_ble_eq_true rfl) rfl ?_
          refine pv_loop (body := (f_X10_layWorth_b66 e30)) (pcE := 81) (lsf := fun v66 => [some (.ref 50), some (.int p1), some (.int v2.1), some (.int v66)]) (mf := fun v66 => e30) (lsE := fun e66 => [some (.ref 50), some (.int p1), some (.int v2.1), some (.int e66)]) (mE := fun e66 => e30) (fun e66 => ?_) (fun E66 hE66 T66 hT66 v66 => ?_) 5000 (0 : Int32)
          · refine pv_aload_n dX10_layWorth_81 rfl ?_
            refine pv_getr dX10_layWorth_82 fl_X10_49 sh_50 rfl ?_
            refine pv_iload_n dX10_layWorth_85 rfl ?_
            refine pv_iload_n dX10_layWorth_86 rfl ?_
            refine pv_iast dX10_layWorth_87 sh_64 ?_
            refine pv_letM (fun m3 => ?_)
            refine pv_iinc (v := (v2.1 + 1)) (ls' := [some (.ref 50), some (.int p1), some (.int (v2.1 + 1)), some (.int e66)]) dX10_layWorth_88 rfl rfl (Nat.le_of_ble_eq_true rfl) rfl ?_
            refine pv_goto (tgt := 2) dX10_layWorth_91 (by decide) ?_
            refine pv_mask (ls' := [some (.ref 50), some (.int p1), some (.int (v2.1 + 1)), none]) [true, true, true, false] rfl ?_
            exact hT2 ((v2.1 + 1), m3)
          · unfold f_X10_layWorth_b66
            refine pv_aload_n dX10_layWorth_66 rfl ?_
            refine pv_getr dX10_layWorth_67 fl_X10_52 sh_50 rfl ?_
            refine pv_iload_n dX10_layWorth_70 rfl ?_
            refine pv_zald dX10_layWorth_71 sh_65 ?_
            refine pv_if_eq (tgt := 81) dX10_layWorth_72 (by decide) ?_ ?_
            · exact hE66 v66
            · refine pv_iinc (v := (v66 + 1)) (ls' := [some (.ref 50), some (.int p1), some (.int v2.1), some (.int (v66 + 1))]) dX10_layWorth_75 rfl rfl (Nat.le_of_ble_eq_true rfl) rfl ?_
              refine pv_goto (tgt := 66) dX10_layWorth_78 (by decide) ?_
              exact hT66 (v66 + 1)
        · unfold f_X10_layWorth_b30
          refine pv_iconst (v := 2) dX10_layWorth_30 (by decide) ?_
          refine pv_iload_n dX10_layWorth_31 rfl ?_
          refine pv_imul dX10_layWorth_32 ?_
          refine pv_iload_n dX10_layWorth_33 rfl ?_
          refine pv_icmp_ge (tgt := 64) dX10_layWorth_34 (by decide) ?_ ?_
          · refine pv_mask (ls' := [some (.ref 50), some (.int p1), some (.int v2.1), none]) [true, true, true, false] rfl ?_
            exact hE30 v30.2
          · refine pv_aload_n dX10_layWorth_37 rfl ?_
            refine pv_getr dX10_layWorth_38 fl_X10_52 sh_50 rfl ?_
            refine pv_aload_n dX10_layWorth_41 rfl ?_
            refine pv_getr dX10_layWorth_42 fl_X10_49 sh_50 rfl ?_
            refine pv_iload_n dX10_layWorth_45 rfl ?_
            refine pv_iald dX10_layWorth_46 sh_64 ?_
            refine pv_aload_n dX10_layWorth_47 rfl ?_
            refine pv_getr dX10_layWorth_48 fl_X10_49 sh_50 rfl ?_
            refine pv_iload_n dX10_layWorth_51 rfl ?_
            refine pv_iload_n dX10_layWorth_52 rfl ?_
            refine pv_isub dX10_layWorth_53 ?_
            refine pv_iald dX10_layWorth_54 sh_64 ?_
            refine pv_ixor dX10_layWorth_55 ?_
            refine pv_iconst (v := 1) dX10_layWorth_56 (by decide) ?_
            refine pv_zast dX10_layWorth_57 sh_65 rfl ?_
            refine pv_letM (fun m2 => ?_)
            refine pv_iinc (v := (v30.1 + 1)) (ls' := [some (.ref 50), some (.int p1), some (.int v2.1), some (.int (v30.1 + 1))]) dX10_layWorth_58 rfl rfl (Nat.le_of_ble_eq_true rfl) rfl ?_
            refine pv_goto (tgt := 30) dX10_layWorth_61 (by decide) ?_
            exact hT30 ((v30.1 + 1), m2)
      · unfold f_X10_layWorth_b9
        refine pv_iload_n dX10_layWorth_9 rfl ?_
        refine pv_bipush (v := 64) dX10_layWorth_10 (by decide) ?_
        refine pv_icmp_ge (tgt := 28) dX10_layWorth_12 (by decide) ?_ ?_
        · refine pv_mask (ls' := [some (.ref 50), some (.int p1), some (.int v2.1), none]) [true, true, true, false] rfl ?_
          exact hE9 v9.2
        · refine pv_aload_n dX10_layWorth_15 rfl ?_
          refine pv_getr dX10_layWorth_16 fl_X10_52 sh_50 rfl ?_
          refine pv_iload_n dX10_layWorth_19 rfl ?_
          refine pv_iconst (v := 0) dX10_layWorth_20 (by decide) ?_
          refine pv_zast dX10_layWorth_21 sh_65 rfl ?_
          refine pv_letM (fun m1 => ?_)
          refine pv_iinc (v := (v9.1 + 1)) (ls' := [some (.ref 50), some (.int p1), some (.int v2.1), some (.int (v9.1 + 1))]) dX10_layWorth_22 rfl rfl (Nat.le_of_ble_eq_true rfl) rfl ?_
          refine pv_goto (tgt := 9) dX10_layWorth_25 (by decide) ?_
          exact hT9 ((v9.1 + 1), m1)
def f_X10_heaps_b48 (p1 : Int32) (m3 : pm_M) (v48 : Int32) (T48 : (Int32 → Option (Int32 × pm_M))) (E48 : (Unit → Option (Int32 × pm_M))) : Option (Int32 × pm_M) :=
  (if p1 ≤ ((2 : Int32) * v48) then (E48 ()) else pm_ck v48 61 (pm_ck (p1 - v48) 61 ((if (m3 64 (Int32.toNatClampNeg v48)) = (m3 64 (Int32.toNatClampNeg (p1 - v48))) then (some (v48, m3)) else (T48 (v48 + 1))))))
def f_X10_heaps (p1 : Int32) (p2 : Int32) (μ : pm_M) : Option (Int32 × pm_M) :=
  (f_X10_in p1 (0 : Int32) (60 : Int32)).bind (fun r1 => (if r1 = 0 then (some ((-2 : Int32), μ)) else (f_X10_in p2 (0 : Int32) (1 : Int32)).bind (fun r2 => (if r2 = 0 then (some ((-2 : Int32), μ)) else (f_X10_layWorth p1 μ).bind (fun m3 => (if p2 = 0 then pm_ck p1 61 ((if (m3 64 (Int32.toNatClampNeg p1)) ≤ 0 then (some ((0 : Int32), m3)) else (some ((1 : Int32), m3)))) else (pm_it (f_X10_heaps_b48 p1 m3) 5000 (1 : Int32) (fun e48 => (some ((-6 : Int32), m3))))))))))
abbrev rm_X10_heaps : Room := { frames := 1, cells := 0, slots := 0, locals := 23 }
set_option maxRecDepth 20000 in
set_option maxHeartbeats 2000000 in
theorem k_X10_heaps (l : Launch) (p1 : Int32) (p2 : Int32) (μ : pm_M) : pm_Ok l yX10_heaps cX10_heaps 4 (some .int) rm_X10_heaps [.ref 50, .int p1, .int p2] SH false SH 0 0 (fun r => (some (.int r.1), r.2)) μ (f_X10_heaps p1 p2 μ) := by
  refine pm_enter (own := RX10) (by decide) rfl (fun h => by cases h) (ls := [some (.ref 50), some (.int p1), some (.int p2), none]) rfl (fun _ => Nat.le_of_ble_eq_true rfl) ?_
  unfold f_X10_heaps
  refine pv_iload_n dX10_heaps_0 rfl ?_
  refine pv_iconst (v := 0) dX10_heaps_1 (by decide) ?_
  refine pv_bipush (v := 60) dX10_heaps_2 (by decide) ?_
  refine pv_cs_ri (rest := []) dX10_heaps_4 my_X10_in sl_X10_62 (k_X10_in l SH p1 (0 : Int32) (60 : Int32) μ) rfl ⟨rfl, rfl, Nat.le_of_ble_eq_true rfl, Nat.le_of_ble_eq_true rfl⟩ ⟨Nat.zero_le _, Nat.zero_le _⟩ (Nat.le_of_ble_eq_true rfl) rfl (fun r1 => ?_)
  refine pv_if_eq (tgt := 19) dX10_heaps_7 (by decide) ?_ ?_
  · refine pv_bipush (v := (-2)) dX10_heaps_19 (by decide) ?_
    exact pv_iret dX10_heaps_21 rfl rfl rfl
  · refine pv_iload_n dX10_heaps_10 rfl ?_
    refine pv_iconst (v := 0) dX10_heaps_11 (by decide) ?_
    refine pv_iconst (v := 1) dX10_heaps_12 (by decide) ?_
    refine pv_cs_ri (rest := []) dX10_heaps_13 my_X10_in sl_X10_62 (k_X10_in l SH p2 (0 : Int32) (1 : Int32) μ) rfl ⟨rfl, rfl, Nat.le_of_ble_eq_true rfl, Nat.le_of_ble_eq_true rfl⟩ ⟨Nat.zero_le _, Nat.zero_le _⟩ (Nat.le_of_ble_eq_true rfl) rfl (fun r2 => ?_)
    refine pv_if_ne (tgt := 22) dX10_heaps_16 (by decide) ?_ ?_
    · refine pv_aload_n dX10_heaps_22 rfl ?_
      refine pv_iload_n dX10_heaps_23 rfl ?_
      refine pv_cv_wv (rest := []) dX10_heaps_24 my_X10_layWorth vl_X10_166 (k_X10_layWorth l p1 μ) sh_50 rfl rfl ⟨rfl, rfl, Nat.le_of_ble_eq_true rfl, Nat.le_of_ble_eq_true rfl⟩ ⟨Nat.zero_le _, Nat.zero_le _⟩ (Nat.le_of_ble_eq_true rfl) rfl (fun m3 => ?_)
      refine pv_iload_n dX10_heaps_27 rfl ?_
      refine pv_if_ne (tgt := 46) dX10_heaps_28 (by decide) ?_ ?_
      · refine pv_iconst (v := 1) dX10_heaps_46 (by decide) ?_
        refine pv_istore_n (ls' := [some (.ref 50), some (.int p1), some (.int p2), some (.int (1 : Int32))]) dX10_heaps_47 (Nat.le_of_ble_eq_true rfl) rfl ?_
        refine pv_mask (ls' := [some (.ref 50), some (.int p1), none, some (.int (1 : Int32))]) [true, true, false, true] rfl ?_
        refine pv_loop (body := (f_X10_heaps_b48 p1 m3)) (pcE := 80) (lsf := fun v48 => [some (.ref 50), some (.int p1), none, some (.int v48)]) (mf := fun v48 => m3) (lsE := fun e48 => [none, none, none, none]) (mE := fun e48 => m3) (fun e48 => ?_) (fun E48 hE48 T48 hT48 v48 => ?_) 5000 (1 : Int32)
        · refine pv_bipush (v := (-6)) dX10_heaps_80 (by decide) ?_
          exact pv_iret dX10_heaps_82 rfl rfl rfl
        · unfold f_X10_heaps_b48
          refine pv_iconst (v := 2) dX10_heaps_48 (by decide) ?_
          refine pv_iload_n dX10_heaps_49 rfl ?_
          refine pv_imul dX10_heaps_50 ?_
          refine pv_iload_n dX10_heaps_51 rfl ?_
          refine pv_icmp_ge (tgt := 80) dX10_heaps_52 (by decide) ?_ ?_
          · refine pv_mask (ls' := [none, none, none, none]) [false, false, false, false] rfl ?_
            exact hE48 ()
          · refine pv_aload_n dX10_heaps_55 rfl ?_
            refine pv_getr dX10_heaps_56 fl_X10_49 sh_50 rfl ?_
            refine pv_iload_n dX10_heaps_59 rfl ?_
            refine pv_iald dX10_heaps_60 sh_64 ?_
            refine pv_aload_n dX10_heaps_61 rfl ?_
            refine pv_getr dX10_heaps_62 fl_X10_49 sh_50 rfl ?_
            refine pv_iload_n dX10_heaps_65 rfl ?_
            refine pv_iload_n dX10_heaps_66 rfl ?_
            refine pv_isub dX10_heaps_67 ?_
            refine pv_iald dX10_heaps_68 sh_64 ?_
            refine pv_icmp_ne (tgt := 74) dX10_heaps_69 (by decide) ?_ ?_
            · refine pv_iinc (v := (v48 + 1)) (ls' := [some (.ref 50), some (.int p1), none, some (.int (v48 + 1))]) dX10_heaps_74 rfl rfl (Nat.le_of_ble_eq_true rfl) rfl ?_
              refine pv_goto (tgt := 48) dX10_heaps_77 (by decide) ?_
              exact hT48 (v48 + 1)
            · refine pv_iload_n dX10_heaps_72 rfl ?_
              exact pv_iret dX10_heaps_73 rfl rfl rfl
      · refine pv_aload_n dX10_heaps_31 rfl ?_
        refine pv_getr dX10_heaps_32 fl_X10_49 sh_50 rfl ?_
        refine pv_iload_n dX10_heaps_35 rfl ?_
        refine pv_iald dX10_heaps_36 sh_64 ?_
        refine pv_if_le (tgt := 44) dX10_heaps_37 (by decide) ?_ ?_
        · refine pv_iconst (v := 0) dX10_heaps_44 (by decide) ?_
          exact pv_iret dX10_heaps_45 rfl rfl rfl
        · refine pv_iconst (v := 1) dX10_heaps_40 (by decide) ?_
          refine pv_goto (tgt := 45) dX10_heaps_41 (by decide) ?_
          exact pv_iret dX10_heaps_45 rfl rfl rfl
    · refine pv_bipush (v := (-2)) dX10_heaps_19 (by decide) ?_
      exact pv_iret dX10_heaps_21 rfl rfl rfl
def f_X10_power_b5 (p0 : Int32) (p1 : Int32) (v5 : (Int64 × Int32)) (T5 : ((Int64 × Int32) → Option Int64)) (E5 : (Int64 → Option Int64)) : Option Int64 :=
  (if p1 ≤ v5.2 then (E5 v5.1) else pm_let (v5.1 * (Int32.toInt64 p0)) (fun x1 => (T5 (x1, (v5.2 + 1)))))
def f_X10_power (p0 : Int32) (p1 : Int32) : Option Int64 :=
  (pm_it (f_X10_power_b5 p0 p1) 5000 ((1 : Int64), (0 : Int32)) (fun e5 => (some e5)))
abbrev rm_X10_power : Room := { frames := 0, cells := 0, slots := 0, locals := 0 }
set_option maxRecDepth 20000 in
set_option maxHeartbeats 2000000 in
theorem k_X10_power (l : Launch) (sh : pm_S) (p0 : Int32) (p1 : Int32) (μ : pm_M) : pm_Ok l yX10_power cX10_power 5 (some .long) rm_X10_power [.int p0, .int p1] sh false sh 0 0 (fun r => (some (.long r), μ)) μ (f_X10_power p0 p1) := by
  refine pm_enter (own := RX10) (by decide) rfl (fun h => by cases h) (ls := [some (.int p0), some (.int p1), none, none, none]) rfl (fun _ => Nat.le_of_ble_eq_true rfl) ?_
  unfold f_X10_power
  refine pv_lconst (v := 1) dX10_power_0 (by decide) ?_
  refine pv_lstore_n (ls' := [some (.int p0), some (.int p1), some (.long (1 : Int64)), none, none]) dX10_power_1 (Nat.le_of_ble_eq_true rfl) rfl ?_
  refine pv_iconst (v := 0) dX10_power_2 (by decide) ?_
  refine pv_istore (ls' := [some (.int p0), some (.int p1), some (.long (1 : Int64)), none, some (.int (0 : Int32))]) dX10_power_3 (Nat.le_of_ble_eq_true rfl) rfl ?_
  refine pv_loop (body := (f_X10_power_b5 p0 p1)) (pcE := 22) (lsf := fun v5 => [some (.int p0), some (.int p1), some (.long v5.1), none, some (.int v5.2)]) (mf := fun v5 => μ) (lsE := fun e5 => [none, none, some (.long e5), none, none]) (mE := fun e5 => μ) (fun e5 => ?_) (fun E5 hE5 T5 hT5 v5 => ?_) 5000 ((1 : Int64), (0 : Int32))
  · refine pv_lload_n dX10_power_22 rfl ?_
    exact pv_lret dX10_power_23 rfl rfl
  · unfold f_X10_power_b5
    refine pv_iload dX10_power_5 rfl ?_
    refine pv_iload_n dX10_power_7 rfl ?_
    refine pv_icmp_ge (tgt := 22) dX10_power_8 (by decide) ?_ ?_
    · refine pv_mask (ls' := [none, none, some (.long v5.1), none, none]) [false, false, true, false, false] rfl ?_
      exact hE5 v5.1
    · refine pv_lload_n dX10_power_11 rfl ?_
      refine pv_iload_n dX10_power_12 rfl ?_
      refine pv_i2l dX10_power_13 ?_
      refine pv_lmul dX10_power_14 ?_
      refine pv_letl (fun x1 => ?_)
      refine pv_lstore_n (ls' := [some (.int p0), some (.int p1), some (.long x1), none, some (.int v5.2)]) dX10_power_15 (Nat.le_of_ble_eq_true rfl) rfl ?_
      refine pv_iinc (v := (v5.2 + 1)) (ls' := [some (.int p0), some (.int p1), some (.long x1), none, some (.int (v5.2 + 1))]) dX10_power_16 rfl rfl (Nat.le_of_ble_eq_true rfl) rfl ?_
      refine pv_goto (tgt := 5) dX10_power_19 (by decide) ?_
      exact hT5 (x1, (v5.2 + 1))
def f_X10_gust_b131  (v131 : (Int64 × Int64)) (T131 : ((Int64 × Int64) → Option Int64)) (E131 : (Int64 → Option Int64)) : Option Int64 :=
  (if (lg_cmp v131.2 (0 : Int64)) = 0 then (E131 v131.1) else (if v131.2 = 0 then none else pm_let (pm_lrem v131.1 v131.2) (fun x11 => (T131 (v131.2, x11)))))
def f_X10_gust_b87 (p1 : Int32) (p2 : Int32) (v87 : (Int64 × Int32)) (T87 : ((Int64 × Int32) → Option Int64)) (E87 : (Int64 → Option Int64)) : Option Int64 :=
  (if p2 < v87.2 then (E87 v87.1) else (f_X10_power v87.2 p1).bind (fun r12 => (f_X10_power (v87.2 - (1 : Int32)) p1).bind (fun r13 => pm_let (v87.1 + ((Int32.toInt64 v87.2) * (r12 - r13))) (fun x14 => (T87 (x14, (v87.2 + 1)))))))
def f_X10_gust (p1 : Int32) (p2 : Int32) (p3 : Int32) (p4 : Int32) (p5 : Int32) : Option Int64 :=
  (f_X10_in p1 (1 : Int32) (12 : Int32)).bind (fun r1 => (if r1 = 0 then (some (-1000000000000000002 : Int64)) else (f_X10_in p2 (1 : Int32) (9 : Int32)).bind (fun r2 => (if r2 = 0 then (some (-1000000000000000002 : Int64)) else (f_X10_in p3 (1 : Int32) p2).bind (fun r3 => (if r3 = 0 then (some (-1000000000000000002 : Int64)) else (f_X10_in p4 (0 : Int32) (1 : Int32)).bind (fun r4 => (if r4 = 0 then (some (-1000000000000000002 : Int64)) else (f_X10_in p5 (0 : Int32) (1 : Int32)).bind (fun r5 => (if r5 = 0 then (some (-1000000000000000002 : Int64)) else (f_X10_power p2 p1).bind (fun r6 => (f_X10_power p3 p1).bind (fun r7 => (f_X10_power (p3 - (1 : Int32)) p1).bind (fun r8 => pm_let (r7 - r8) (fun x9 => (pm_jn (fun (a10 : Int64) => (pm_it f_X10_gust_b131 5000 (a10, r6) (fun e131 => (if p5 = 0 then (if e131 = 0 then none else (some (a10 / e131))) else (if e131 = 0 then none else (some (r6 / e131))))))) (fun j123 => (if p4 = (1 : Int32) then (pm_it (f_X10_gust_b87 p1 p2) 5000 ((0 : Int64), (1 : Int32)) (fun e87 => (j123 e87))) else (j123 x9))))))))))))))))))
abbrev rm_X10_gust : Room := { frames := 1, cells := 0, slots := 0, locals := 24 }
set_option maxRecDepth 20000 in
set_option maxHeartbeats 2000000 in
theorem k_X10_gust (l : Launch) (p1 : Int32) (p2 : Int32) (p3 : Int32) (p4 : Int32) (p5 : Int32) (μ : pm_M) : pm_Ok l yX10_gust cX10_gust 16 (some .long) rm_X10_gust [.ref 50, .int p1, .int p2, .int p3, .int p4, .int p5] SH false SH 0 0 (fun r => (some (.long r), μ)) μ (f_X10_gust p1 p2 p3 p4 p5) := by
  refine pm_enter (own := RX10) (by decide) rfl (fun h => by cases h) (ls := [some (.ref 50), some (.int p1), some (.int p2), some (.int p3), some (.int p4), some (.int p5), none, none, none, none, none, none, none, none, none, none]) rfl (fun _ => Nat.le_of_ble_eq_true rfl) ?_
  unfold f_X10_gust
  refine pv_iload_n dX10_gust_0 rfl ?_
  refine pv_iconst (v := 1) dX10_gust_1 (by decide) ?_
  refine pv_bipush (v := 12) dX10_gust_2 (by decide) ?_
  refine pv_cs_ri (rest := []) dX10_gust_4 my_X10_in sl_X10_62 (k_X10_in l SH p1 (1 : Int32) (12 : Int32) μ) rfl ⟨rfl, rfl, Nat.le_of_ble_eq_true rfl, Nat.le_of_ble_eq_true rfl⟩ ⟨Nat.zero_le _, Nat.zero_le _⟩ (Nat.le_of_ble_eq_true rfl) rfl (fun r1 => ?_)
  refine pv_if_eq (tgt := 49) dX10_gust_7 (by decide) ?_ ?_
  · refine pv_ldc2 dX10_gust_49 kc_X10_170 ?_
    exact pv_lret dX10_gust_52 rfl rfl
  · refine pv_iload_n dX10_gust_10 rfl ?_
    refine pv_iconst (v := 1) dX10_gust_11 (by decide) ?_
    refine pv_bipush (v := 9) dX10_gust_12 (by decide) ?_
    refine pv_cs_ri (rest := []) dX10_gust_14 my_X10_in sl_X10_62 (k_X10_in l SH p2 (1 : Int32) (9 : Int32) μ) rfl ⟨rfl, rfl, Nat.le_of_ble_eq_true rfl, Nat.le_of_ble_eq_true rfl⟩ ⟨Nat.zero_le _, Nat.zero_le _⟩ (Nat.le_of_ble_eq_true rfl) rfl (fun r2 => ?_)
    refine pv_if_eq (tgt := 49) dX10_gust_17 (by decide) ?_ ?_
    · refine pv_ldc2 dX10_gust_49 kc_X10_170 ?_
      exact pv_lret dX10_gust_52 rfl rfl
    · refine pv_iload_n dX10_gust_20 rfl ?_
      refine pv_iconst (v := 1) dX10_gust_21 (by decide) ?_
      refine pv_iload_n dX10_gust_22 rfl ?_
      refine pv_cs_ri (rest := []) dX10_gust_23 my_X10_in sl_X10_62 (k_X10_in l SH p3 (1 : Int32) p2 μ) rfl ⟨rfl, rfl, Nat.le_of_ble_eq_true rfl, Nat.le_of_ble_eq_true rfl⟩ ⟨Nat.zero_le _, Nat.zero_le _⟩ (Nat.le_of_ble_eq_true rfl) rfl (fun r3 => ?_)
      refine pv_if_eq (tgt := 49) dX10_gust_26 (by decide) ?_ ?_
      · refine pv_ldc2 dX10_gust_49 kc_X10_170 ?_
        exact pv_lret dX10_gust_52 rfl rfl
      · refine pv_iload dX10_gust_29 rfl ?_
        refine pv_iconst (v := 0) dX10_gust_31 (by decide) ?_
        refine pv_iconst (v := 1) dX10_gust_32 (by decide) ?_
        refine pv_cs_ri (rest := []) dX10_gust_33 my_X10_in sl_X10_62 (k_X10_in l SH p4 (0 : Int32) (1 : Int32) μ) rfl ⟨rfl, rfl, Nat.le_of_ble_eq_true rfl, Nat.le_of_ble_eq_true rfl⟩ ⟨Nat.zero_le _, Nat.zero_le _⟩ (Nat.le_of_ble_eq_true rfl) rfl (fun r4 => ?_)
        refine pv_if_eq (tgt := 49) dX10_gust_36 (by decide) ?_ ?_
        · refine pv_ldc2 dX10_gust_49 kc_X10_170 ?_
          exact pv_lret dX10_gust_52 rfl rfl
        · refine pv_iload dX10_gust_39 rfl ?_
          refine pv_iconst (v := 0) dX10_gust_41 (by decide) ?_
          refine pv_iconst (v := 1) dX10_gust_42 (by decide) ?_
          refine pv_cs_ri (rest := []) dX10_gust_43 my_X10_in sl_X10_62 (k_X10_in l SH p5 (0 : Int32) (1 : Int32) μ) rfl ⟨rfl, rfl, Nat.le_of_ble_eq_true rfl, Nat.le_of_ble_eq_true rfl⟩ ⟨Nat.zero_le _, Nat.zero_le _⟩ (Nat.le_of_ble_eq_true rfl) rfl (fun r5 => ?_)
          refine pv_if_ne (tgt := 53) dX10_gust_46 (by decide) ?_ ?_
          · refine pv_iload_n dX10_gust_53 rfl ?_
            refine pv_iload_n dX10_gust_54 rfl ?_
            refine pv_cs_rl (rest := []) dX10_gust_55 my_X10_power sl_X10_172 (k_X10_power l SH p2 p1 μ) rfl ⟨rfl, rfl, Nat.le_of_ble_eq_true rfl, Nat.le_of_ble_eq_true rfl⟩ ⟨Nat.zero_le _, Nat.zero_le _⟩ (Nat.le_of_ble_eq_true rfl) rfl (fun r6 => ?_)
            refine pv_lstore (ls' := [some (.ref 50), some (.int p1), some (.int p2), some (.int p3), some (.int p4), some (.int p5), some (.long r6), none, none, none, none, none, none, none, none, none]) dX10_gust_58 (Nat.le_of_ble_eq_true rfl) rfl ?_
            refine pv_iload_n dX10_gust_60 rfl ?_
            refine pv_iload_n dX10_gust_61 rfl ?_
            refine pv_cs_rl (rest := []) dX10_gust_62 my_X10_power sl_X10_172 (k_X10_power l SH p3 p1 μ) rfl ⟨rfl, rfl, Nat.le_of_ble_eq_true rfl, Nat.le_of_ble_eq_true rfl⟩ ⟨Nat.zero_le _, Nat.zero_le _⟩ (Nat.le_of_ble_eq_true rfl) rfl (fun r7 => ?_)
            refine pv_iload_n dX10_gust_65 rfl ?_
            refine pv_iconst (v := 1) dX10_gust_66 (by decide) ?_
            refine pv_isub dX10_gust_67 ?_
            refine pv_iload_n dX10_gust_68 rfl ?_
            refine pv_cs_rl (rest := [.long r7]) dX10_gust_69 my_X10_power sl_X10_172 (k_X10_power l SH (p3 - (1 : Int32)) p1 μ) rfl ⟨rfl, rfl, Nat.le_of_ble_eq_true rfl, Nat.le_of_ble_eq_true rfl⟩ ⟨Nat.zero_le _, Nat.zero_le _⟩ (Nat.le_of_ble_eq_true rfl) rfl (fun r8 => ?_)
            refine pv_lsub dX10_gust_72 ?_
            refine pv_letl (fun x9 => ?_)
            refine pv_lstore (ls' := [some (.ref 50), some (.int p1), some (.int p2), some (.int p3), some (.int p4), some (.int p5), some (.long r6), none, some (.long x9), none, none, none, none, none, none, none]) dX10_gust_73 (Nat.le_of_ble_eq_true rfl) rfl ?_
            refine pv_iload dX10_gust_75 rfl ?_
            refine pv_iconst (v := 1) dX10_gust_77 (by decide) ?_
            refine pv_jn (pcJ := 123) (lsJ := fun a10 => [none, none, none, none, none, some (.int p5), some (.long r6), none, some (.long a10), none, none, none, none, none, none, none]) (stJ := fun a10 => []) (mJ := fun a10 => μ) (fun a10 => ?_) (fun j123 hj123 => ?_)
            · refine pv_lload dX10_gust_123 rfl ?_
              refine pv_lstore (ls' := [none, none, none, none, none, some (.int p5), some (.long r6), none, some (.long a10), none, some (.long a10), none, none, none, none, none]) dX10_gust_125 (Nat.le_of_ble_eq_true rfl) rfl ?_
              refine pv_lload dX10_gust_127 rfl ?_
              refine pv_lstore (ls' := [none, none, none, none, none, some (.int p5), some (.long r6), none, some (.long a10), none, some (.long a10), none, some (.long r6), none, none, none]) dX10_gust_129 (Nat.le_of_ble_eq_true rfl) rfl ?_
              refine pv_loop (body := f_X10_gust_b131) (pcE := 156) (lsf := fun v131 => [none, none, none, none, none, some (.int p5), some (.long r6), none, some (.long a10), none, some (.long v131.1), none, some (.long v131.2), none, none, none]) (mf := fun v131 => μ) (lsE := fun e131 => [none, none, none, none, none, some (.int p5), some (.long r6), none, some (.long a10), none, some (.long e131), none, none, none, none, none]) (mE := fun e131 => μ) (fun e131 => ?_) (fun E131 hE131 T131 hT131 v131 => ?_) 5000 (a10, r6)
              · refine pv_iload dX10_gust_156 rfl ?_
                refine pv_if_ne (tgt := 169) dX10_gust_158 (by decide) ?_ ?_
                · refine pv_lload dX10_gust_169 rfl ?_
                  refine pv_lload dX10_gust_171 rfl ?_
                  refine pv_ldiv dX10_gust_173 ?_
                  exact pv_lret dX10_gust_174 rfl rfl
                · refine pv_lload dX10_gust_161 rfl ?_
                  refine pv_lload dX10_gust_163 rfl ?_
                  refine pv_ldiv dX10_gust_165 ?_
                  refine pv_goto (tgt := 174) dX10_gust_166 (by decide) ?_
                  exact pv_lret dX10_gust_174 rfl rfl
              · unfold f_X10_gust_b131
                refine pv_lload dX10_gust_131 rfl ?_
                refine pv_lconst (v := 0) dX10_gust_133 (by decide) ?_
                refine pv_lcmp dX10_gust_134 ?_
                refine pv_if_eq (tgt := 156) dX10_gust_135 (by decide) ?_ ?_
                · refine pv_mask (ls' := [none, none, none, none, none, some (.int p5), some (.long r6), none, some (.long a10), none, some (.long v131.1), none, none, none, none, none]) [false, false, false, false, false, true, true, false, true, false, true, false, false, false, false, false] rfl ?_
                  exact hE131 v131.1
                · refine pv_lload dX10_gust_138 rfl ?_
                  refine pv_lload dX10_gust_140 rfl ?_
                  refine pv_lrem dX10_gust_142 ?_
                  refine pv_letl (fun x11 => ?_)
                  refine pv_lstore (ls' := [none, none, none, none, none, some (.int p5), some (.long r6), none, some (.long a10), none, some (.long v131.1), none, some (.long v131.2), none, some (.long x11), none]) dX10_gust_143 (Nat.le_of_ble_eq_true rfl) rfl ?_
                  refine pv_lload dX10_gust_145 rfl ?_
                  refine pv_lstore (ls' := [none, none, none, none, none, some (.int p5), some (.long r6), none, some (.long a10), none, some (.long v131.2), none, some (.long v131.2), none, some (.long x11), none]) dX10_gust_147 (Nat.le_of_ble_eq_true rfl) rfl ?_
                  refine pv_lload dX10_gust_149 rfl ?_
                  refine pv_lstore (ls' := [none, none, none, none, none, some (.int p5), some (.long r6), none, some (.long a10), none, some (.long v131.2), none, some (.long x11), none, some (.long x11), none]) dX10_gust_151 (Nat.le_of_ble_eq_true rfl) rfl ?_
                  refine pv_goto (tgt := 131) dX10_gust_153 (by decide) ?_
                  refine pv_mask (ls' := [none, none, none, none, none, some (.int p5), some (.long r6), none, some (.long a10), none, some (.long v131.2), none, some (.long x11), none, none, none]) [false, false, false, false, false, true, true, false, true, false, true, false, true, false, false, false] rfl ?_
                  exact hT131 (v131.2, x11)
            · refine pv_icmp_ne (tgt := 123) dX10_gust_78 (by decide) ?_ ?_
              · refine pv_mask (ls' := [none, none, none, none, none, some (.int p5), some (.long r6), none, some (.long x9), none, none, none, none, none, none, none]) [false, false, false, false, false, true, true, false, true, false, false, false, false, false, false, false] rfl ?_
                exact hj123 x9
              · refine pv_lconst (v := 0) dX10_gust_81 (by decide) ?_
                refine pv_lstore (ls' := [some (.ref 50), some (.int p1), some (.int p2), some (.int p3), some (.int p4), some (.int p5), some (.long r6), none, some (.long (0 : Int64)), none, none, none, none, none, none, none]) dX10_gust_82 (Nat.le_of_ble_eq_true rfl) rfl ?_
                refine pv_iconst (v := 1) dX10_gust_84 (by decide) ?_
                refine pv_istore (ls' := [some (.ref 50), some (.int p1), some (.int p2), some (.int p3), some (.int p4), some (.int p5), some (.long r6), none, some (.long (0 : Int64)), none, some (.int (1 : Int32)), none, none, none, none, none]) dX10_gust_85 (Nat.le_of_ble_eq_true rfl) rfl ?_
                refine pv_mask (ls' := [none, some (.int p1), some (.int p2), none, none, some (.int p5), some (.long r6), none, some (.long (0 : Int64)), none, some (.int (1 : Int32)), none, none, none, none, none]) [false, true, true, false, false, true, true, false, true, false, true, false, false, false, false, false] rfl ?_
                refine pv_loop (body := (f_X10_gust_b87 p1 p2)) (pcE := 123) (lsf := fun v87 => [none, some (.int p1), some (.int p2), none, none, some (.int p5), some (.long r6), none, some (.long v87.1), none, some (.int v87.2), none, none, none, none, none]) (mf := fun v87 => μ) (lsE := fun e87 => [none, none, none, none, none, some (.int p5), some (.long r6), none, some (.long e87), none, none, none, none, none, none, none]) (mE := fun e87 => μ) (fun e87 => ?_) (fun E87 hE87 T87 hT87 v87 => ?_) 5000 ((0 : Int64), (1 : Int32))
                · exact hj123 e87
                · unfold f_X10_gust_b87
                  refine pv_iload dX10_gust_87 rfl ?_
                  refine pv_iload_n dX10_gust_89 rfl ?_
                  refine pv_icmp_gt (tgt := 123) dX10_gust_90 (by decide) ?_ ?_
                  · refine pv_mask (ls' := [none, none, none, none, none, some (.int p5), some (.long r6), none, some (.long v87.1), none, none, none, none, none, none, none]) [false, false, false, false, false, true, true, false, true, false, false, false, false, false, false, false] rfl ?_
                    exact hE87 v87.1
                  · refine pv_lload dX10_gust_93 rfl ?_
                    refine pv_iload dX10_gust_95 rfl ?_
                    refine pv_i2l dX10_gust_97 ?_
                    refine pv_iload dX10_gust_98 rfl ?_
                    refine pv_iload_n dX10_gust_100 rfl ?_
                    refine pv_cs_rl (rest := [.long (Int32.toInt64 v87.2), .long v87.1]) dX10_gust_101 my_X10_power sl_X10_172 (k_X10_power l SH v87.2 p1 μ) rfl ⟨rfl, rfl, Nat.le_of_ble_eq_true rfl, Nat.le_of_ble_eq_true rfl⟩ ⟨Nat.zero_le _, Nat.zero_le _⟩ (Nat.le_of_ble_eq_true rfl) rfl (fun r12 => ?_)
                    refine pv_iload dX10_gust_104 rfl ?_
                    refine pv_iconst (v := 1) dX10_gust_106 (by decide) ?_
                    refine pv_isub dX10_gust_107 ?_
                    refine pv_iload_n dX10_gust_108 rfl ?_
                    refine pv_cs_rl (rest := [.long r12, .long (Int32.toInt64 v87.2), .long v87.1]) dX10_gust_109 my_X10_power sl_X10_172 (k_X10_power l SH (v87.2 - (1 : Int32)) p1 μ) rfl ⟨rfl, rfl, Nat.le_of_ble_eq_true rfl, Nat.le_of_ble_eq_true rfl⟩ ⟨Nat.zero_le _, Nat.zero_le _⟩ (Nat.le_of_ble_eq_true rfl) rfl (fun r13 => ?_)
                    refine pv_lsub dX10_gust_112 ?_
                    refine pv_lmul dX10_gust_113 ?_
                    refine pv_ladd dX10_gust_114 ?_
                    refine pv_letl (fun x14 => ?_)
                    refine pv_lstore (ls' := [none, some (.int p1), some (.int p2), none, none, some (.int p5), some (.long r6), none, some (.long x14), none, some (.int v87.2), none, none, none, none, none]) dX10_gust_115 (Nat.le_of_ble_eq_true rfl) rfl ?_
                    refine pv_iinc (v := (v87.2 + 1)) (ls' := [none, some (.int p1), some (.int p2), none, none, some (.int p5), some (.long r6), none, some (.long x14), none, some (.int (v87.2 + 1)), none, none, none, none, none]) dX10_gust_117 rfl rfl (Nat.le_of_ble_eq_true rfl) rfl ?_
                    refine pv_goto (tgt := 87) dX10_gust_120 (by decide) ?_
                    exact hT87 (x14, (v87.2 + 1))
          · refine pv_ldc2 dX10_gust_49 kc_X10_170 ?_
            exact pv_lret dX10_gust_52 rfl rfl
def f_X10_year_b43 (p2 : Int32) (v43 : (Int32 × Int32 × pm_M)) (T43 : ((Int32 × Int32 × pm_M) → Option (Int32 × pm_M))) (E43 : (pm_M → Option (Int32 × pm_M))) : Option (Int32 × pm_M) :=
  (if p2 ≤ v43.2.1 then (E43 v43.2.2) else pm_let (pm_rem (((75 : Int32) * v43.1) + (74 : Int32)) (65537 : Int32)) (fun x5 => pm_let (pm_rem x5 (7 : Int32)) (fun x6 => pm_let (pm_rem (x5 / (7 : Int32)) (8 : Int32)) (fun x7 => pm_let (x5 / (56 : Int32)) (fun x8 => (pm_jn (fun (a9 : pm_M) => (T43 (x5, (v43.2.1 + 1), a9))) (fun j180 => (if (3 : Int32) ≤ x7 then (if x7 = (3 : Int32) then (f_X10_mend x6 v43.2.2).bind (fun r16 => pm_let (pm_up r16.2 50 12 r16.1) (fun m17 => (j180 m17))) else (if x7 = (4 : Int32) then (f_X10_split x6 (pm_rem x8 (7 : Int32)) v43.2.2).bind (fun r14 => pm_let (pm_up r14.2 50 12 r14.1) (fun m15 => (j180 m15))) else (pm_jn (fun (a10 : (Int32 × pm_M)) => pm_let (pm_up a10.2 50 12 a10.1) (fun m11 => (j180 m11))) (fun j177 => (if x7 = (5 : Int32) then (f_X10_blow ((1 : Int32) + (pm_rem x8 (3 : Int32))) v43.2.2).bind (fun r13 => (j177 (r13.1, r13.2))) else (f_X10_endDay v43.2.2).bind (fun r12 => (j177 (r12.1, r12.2)))))))) else (f_X10_go x6 (pm_rem x8 (7 : Int32)) v43.2.2).bind (fun r18 => pm_let (pm_up r18.2 50 12 r18.1) (fun m19 => (j180 m19)))))))))))
def f_X10_year_b192 (e43 : pm_M) (v192 : (Int32 × Int32)) (T192 : ((Int32 × Int32) → Option (Int32 × pm_M))) (E192 : (Int32 → Option (Int32 × pm_M))) : Option (Int32 × pm_M) :=
  (if (7 : Int32) ≤ v192.2 then (E192 v192.1) else (f_X10_away e43).bind (fun r20 => pm_let (v192.1 + ((r20 >>> (v192.2 &&& 31)) &&& (1 : Int32))) (fun x21 => (T192 (x21, (v192.2 + 1))))))
def f_X10_year (p1 : Int32) (p2 : Int32) (p3 : Int32) (μ : pm_M) : Option (Int32 × pm_M) :=
  (f_X10_in p1 (0 : Int32) (9999 : Int32)).bind (fun r1 => (if r1 = 0 then (some ((-2 : Int32), μ)) else (f_X10_in p2 (1 : Int32) (99 : Int32)).bind (fun r2 => (if r2 = 0 then (some ((-2 : Int32), μ)) else (f_X10_in p3 (0 : Int32) (2 : Int32)).bind (fun r3 => (if r3 = 0 then (some ((-2 : Int32), μ)) else (f_X10_asNow μ).bind (fun m4 => (pm_it (f_X10_year_b43 p2) 5000 (p1, (0 : Int32), m4) (fun e43 => (pm_it (f_X10_year_b192 e43) 5000 ((0 : Int32), (0 : Int32)) (fun e192 => (if p3 = 0 then (f_X10_palesOf (0 : Int32) e43).bind (fun r22 => (some (r22, e43))) else (if p3 = (1 : Int32) then (some (e192, e43)) else pm_ck (56 : Int32) 64 ((some ((e43 52 (Int32.toNatClampNeg (56 : Int32))), e43))))))))))))))))
abbrev rm_X10_year : Room := { frames := 3, cells := 0, slots := 0, locals := 67 }
set_option maxRecDepth 20000 in
set_option maxHeartbeats 2000000 in
theorem k_X10_year (l : Launch) (p1 : Int32) (p2 : Int32) (p3 : Int32) (μ : pm_M) : pm_Ok l yX10_year cX10_year 9 (some .int) rm_X10_year [.ref 50, .int p1, .int p2, .int p3] SH false SH 0 0 (fun r => (some (.int r.1), r.2)) μ (f_X10_year p1 p2 p3 μ) := by
  refine pm_enter (own := RX10) (by decide) rfl (fun h => by cases h) (ls := [some (.ref 50), some (.int p1), some (.int p2), some (.int p3), none, none, none, none, none]) rfl (fun _ => Nat.le_of_ble_eq_true rfl) ?_
  unfold f_X10_year
  refine pv_iload_n dX10_year_0 rfl ?_
  refine pv_iconst (v := 0) dX10_year_1 (by decide) ?_
  refine pv_sipush (v := 9999) dX10_year_2 (by decide) ?_
  refine pv_cs_ri (rest := []) dX10_year_5 my_X10_in sl_X10_62 (k_X10_in l SH p1 (0 : Int32) (9999 : Int32) μ) rfl ⟨rfl, rfl, Nat.le_of_ble_eq_true rfl, Nat.le_of_ble_eq_true rfl⟩ ⟨Nat.zero_le _, Nat.zero_le _⟩ (Nat.le_of_ble_eq_true rfl) rfl (fun r1 => ?_)
  refine pv_if_eq (tgt := 30) dX10_year_8 (by decide) ?_ ?_
  · refine pv_bipush (v := (-2)) dX10_year_30 (by decide) ?_
    exact pv_iret dX10_year_32 rfl rfl rfl
  · refine pv_iload_n dX10_year_11 rfl ?_
    refine pv_iconst (v := 1) dX10_year_12 (by decide) ?_
    refine pv_bipush (v := 99) dX10_year_13 (by decide) ?_
    refine pv_cs_ri (rest := []) dX10_year_15 my_X10_in sl_X10_62 (k_X10_in l SH p2 (1 : Int32) (99 : Int32) μ) rfl ⟨rfl, rfl, Nat.le_of_ble_eq_true rfl, Nat.le_of_ble_eq_true rfl⟩ ⟨Nat.zero_le _, Nat.zero_le _⟩ (Nat.le_of_ble_eq_true rfl) rfl (fun r2 => ?_)
    refine pv_if_eq (tgt := 30) dX10_year_18 (by decide) ?_ ?_
    · refine pv_bipush (v := (-2)) dX10_year_30 (by decide) ?_
      exact pv_iret dX10_year_32 rfl rfl rfl
    · refine pv_iload_n dX10_year_21 rfl ?_
      refine pv_iconst (v := 0) dX10_year_22 (by decide) ?_
      refine pv_iconst (v := 2) dX10_year_23 (by decide) ?_
      refine pv_cs_ri (rest := []) dX10_year_24 my_X10_in sl_X10_62 (k_X10_in l SH p3 (0 : Int32) (2 : Int32) μ) rfl ⟨rfl, rfl, Nat.le_of_ble_eq_true rfl, Nat.le_of_ble_eq_true rfl⟩ ⟨Nat.zero_le _, Nat.zero_le _⟩ (Nat.le_of_ble_eq_true rfl) rfl (fun r3 => ?_)
      refine pv_if_ne (tgt := 33) dX10_year_27 (by decide) ?_ ?_
      · refine pv_aload_n dX10_year_33 rfl ?_
        refine pv_cv_wv (rest := []) dX10_year_34 my_X10_asNow vl_X10_70 (k_X10_asNow l μ) sh_50 rfl rfl ⟨rfl, rfl, Nat.le_of_ble_eq_true rfl, Nat.le_of_ble_eq_true rfl⟩ ⟨Nat.zero_le _, Nat.zero_le _⟩ (Nat.le_of_ble_eq_true rfl) rfl (fun m4 => ?_)
        refine pv_iload_n dX10_year_37 rfl ?_
        refine pv_istore (ls' := [some (.ref 50), some (.int p1), some (.int p2), some (.int p3), some (.int p1), none, none, none, none]) dX10_year_38 (Nat.le_of_ble_eq_true rfl) rfl ?_
        refine pv_iconst (v := 0) dX10_year_40 (by decide) ?_
        refine pv_istore (ls' := [some (.ref 50), some (.int p1), some (.int p2), some (.int p3), some (.int p1), some (.int (0 : Int32)), none, none, none]) dX10_year_41 (Nat.le_of_ble_eq_true rfl) rfl ?_
        refine pv_mask (ls' := [some (.ref 50), none, some (.int p2), some (.int p3), some (.int p1), some (.int (0 : Int32)), none, none, none]) [true, false, true, true, true, true, false, false, false] rfl ?_
        refine pv_loop (body := (f_X10_year_b43 p2)) (pcE := 186) (lsf := fun v43 => [some (.ref 50), none, some (.int p2), some (.int p3), some (.int v43.1), some (.int v43.2.1), none, none, none]) (mf := fun v43 => v43.2.2) (lsE := fun e43 => [some (.ref 50), none, none, some (.int p3), none, none, none, none, none]) (mE := fun e43 => e43) (fun e43 => ?_) (fun E43 hE43 T43 hT43 v43 => ?_) 5000 (p1, (0 : Int32), m4)
        · refine pv_iconst (v := 0) dX10_year_186 (by decide) ?_
          refine pv_istore (ls' := [some (.ref 50), none, none, some (.int p3), none, some (.int (0 : Int32)), none, none, none]) dX10_year_187 (Nat.le_of_ble_eq_true rfl) rfl ?_
          refine pv_iconst (v := 0) dX10_year_189 (by decide) ?_
          refine pv_istore (ls' := [some (.ref 50), none, none, some (.int p3), none, some (.int (0 : Int32)), some (.int (0 : Int32)), none, none]) dX10_year_190 (Nat.le_of_ble_eq_true rfl) rfl ?_
          refine pv_loop (body := (f_X10_year_b192 e43)) (pcE := 219) (lsf := fun v192 => [some (.ref 50), none, none, some (.int p3), none, some (.int v192.1), some (.int v192.2), none, none]) (mf := fun v192 => e43) (lsE := fun e192 => [some (.ref 50), none, none, some (.int p3), none, some (.int e192), none, none, none]) (mE := fun e192 => e43) (fun e192 => ?_) (fun E192 hE192 T192 hT192 v192 => ?_) 5000 ((0 : Int32), (0 : Int32))
          · refine pv_iload_n dX10_year_219 rfl ?_
            refine pv_if_ne (tgt := 231) dX10_year_220 (by decide) ?_ ?_
            · refine pv_iload_n dX10_year_231 rfl ?_
              refine pv_iconst (v := 1) dX10_year_232 (by decide) ?_
              refine pv_icmp_ne (tgt := 241) dX10_year_233 (by decide) ?_ ?_
              · refine pv_aload_n dX10_year_241 rfl ?_
                refine pv_getr dX10_year_242 fl_X10_13 sh_50 rfl ?_
                refine pv_bipush (v := 56) dX10_year_245 (by decide) ?_
                refine pv_iald dX10_year_247 sh_52 ?_
                exact pv_iret dX10_year_248 rfl rfl rfl
              · refine pv_iload dX10_year_236 rfl ?_
                refine pv_goto (tgt := 248) dX10_year_238 (by decide) ?_
                exact pv_iret dX10_year_248 rfl rfl rfl
            · refine pv_aload_n dX10_year_223 rfl ?_
              refine pv_iconst (v := 0) dX10_year_224 (by decide) ?_
              refine pv_cv_ri (rest := []) dX10_year_225 my_X10_palesOf vl_X10_73 (k_X10_palesOf l (0 : Int32) e43) sh_50 rfl rfl ⟨rfl, rfl, Nat.le_of_ble_eq_true rfl, Nat.le_of_ble_eq_true rfl⟩ ⟨Nat.zero_le _, Nat.zero_le _⟩ (Nat.le_of_ble_eq_true rfl) rfl (fun r22 => ?_)
              refine pv_goto (tgt := 248) dX10_year_228 (by decide) ?_
              exact pv_iret dX10_year_248 rfl rfl rfl
          · unfold f_X10_year_b192
            refine pv_iload dX10_year_192 rfl ?_
            refine pv_bipush (v := 7) dX10_year_194 (by decide) ?_
            refine pv_icmp_ge (tgt := 219) dX10_year_196 (by decide) ?_ ?_
            · refine pv_mask (ls' := [some (.ref 50), none, none, some (.int p3), none, some (.int v192.1), none, none, none]) [true, false, false, true, false, true, false, false, false] rfl ?_
              exact hE192 v192.1
            · refine pv_iload dX10_year_199 rfl ?_
              refine pv_aload_n dX10_year_201 rfl ?_
              refine pv_cv_ri (rest := [.int v192.1]) dX10_year_202 my_X10_away vl_X10_135 (k_X10_away l e43) sh_50 rfl rfl ⟨rfl, rfl, Nat.le_of_ble_eq_true rfl, Nat.le_of_ble_eq_true rfl⟩ ⟨Nat.zero_le _, Nat.zero_le _⟩ (Nat.le_of_ble_eq_true rfl) rfl (fun r20 => ?_)
              refine pv_iload dX10_year_205 rfl ?_
              refine pv_ishr dX10_year_207 ?_
              refine pv_iconst (v := 1) dX10_year_208 (by decide) ?_
              refine pv_iand dX10_year_209 ?_
              refine pv_iadd dX10_year_210 ?_
              refine pv_let (fun x21 => ?_)
              refine pv_istore (ls' := [some (.ref 50), none, none, some (.int p3), none, some (.int x21), some (.int v192.2), none, none]) dX10_year_211 (Nat.le_of_ble_eq_true rfl) rfl ?_
              refine pv_iinc (v := (v192.2 + 1)) (ls' := [some (.ref 50), none, none, some (.int p3), none, some (.int x21), some (.int (v192.2 + 1)), none, none]) dX10_year_213 rfl rfl (Nat.le_of_ble_eq_true rfl) rfl ?_
              refine pv_goto (tgt := 192) dX10_year_216 (by decide) ?_
              exact hT192 (x21, (v192.2 + 1))
        · unfold f_X10_year_b43
          refine pv_iload dX10_year_43 rfl ?_
          refine pv_iload_n dX10_year_45 rfl ?_
          refine pv_icmp_ge (tgt := 186) dX10_year_46 (by decide) ?_ ?_
          · refine pv_mask (ls' := [some (.ref 50), none, none, some (.int p3), none, none, none, none, none]) [true, false, false, true, false, false, false, false, false] rfl ?_
            exact hE43 v43.2.2
          · refine pv_bipush (v := 75) dX10_year_49 (by decide) ?_
            refine pv_iload dX10_year_51 rfl ?_
            refine pv_imul dX10_year_53 ?_
            refine pv_bipush (v := 74) dX10_year_54 (by decide) ?_
            refine pv_iadd dX10_year_56 ?_
            refine pv_ldc dX10_year_57 kc_X10_176 ?_
            refine pv_irem dX10_year_59 (by decide) ?_
            refine pv_let (fun x5 => ?_)
            refine pv_istore (ls' := [some (.ref 50), none, some (.int p2), some (.int p3), some (.int x5), some (.int v43.2.1), none, none, none]) dX10_year_60 (Nat.le_of_ble_eq_true rfl) rfl ?_
            refine pv_iload dX10_year_62 rfl ?_
            refine pv_bipush (v := 7) dX10_year_64 (by decide) ?_
            refine pv_irem dX10_year_66 (by decide) ?_
            refine pv_let (fun x6 => ?_)
            refine pv_istore (ls' := [some (.ref 50), none, some (.int p2), some (.int p3), some (.int x5), some (.int v43.2.1), some (.int x6), none, none]) dX10_year_67 (Nat.le_of_ble_eq_true rfl) rfl ?_
            refine pv_iload dX10_year_69 rfl ?_
            refine pv_bipush (v := 7) dX10_year_71 (by decide) ?_
            refine pv_idiv dX10_year_73 (by decide) ?_
            refine pv_bipush (v := 8) dX10_year_74 (by decide) ?_
            refine pv_irem dX10_year_76 (by decide) ?_
            refine pv_let (fun x7 => ?_)
            refine pv_istore (ls' := [some (.ref 50), none, some (.int p2), some (.int p3), some (.int x5), some (.int v43.2.1), some (.int x6), some (.int x7), none]) dX10_year_77 (Nat.le_of_ble_eq_true rfl) rfl ?_
            refine pv_iload dX10_year_79 rfl ?_
            refine pv_bipush (v := 56) dX10_year_81 (by decide) ?_
            refine pv_idiv dX10_year_83 (by decide) ?_
            refine pv_let (fun x8 => ?_)
            refine pv_istore (ls' := [some (.ref 50), none, some (.int p2), some (.int p3), some (.int x5), some (.int v43.2.1), some (.int x6), some (.int x7), some (.int x8)]) dX10_year_84 (Nat.le_of_ble_eq_true rfl) rfl ?_
            refine pv_iload dX10_year_86 rfl ?_
            refine pv_iconst (v := 3) dX10_year_88 (by decide) ?_
            refine pv_jn (pcJ := 180) (lsJ := fun a9 => [some (.ref 50), none, some (.int p2), some (.int p3), some (.int x5), some (.int v43.2.1), none, none, none]) (stJ := fun a9 => []) (mJ := fun a9 => a9) (fun a9 => ?_) (fun j180 hj180 => ?_)
            · refine pv_iinc (v := (v43.2.1 + 1)) (ls' := [some (.ref 50), none, some (.int p2), some (.int p3), some (.int x5), some (.int (v43.2.1 + 1)), none, none, none]) dX10_year_180 rfl rfl (Nat.le_of_ble_eq_true rfl) rfl ?_
              refine pv_goto (tgt := 43) dX10_year_183 (by decide) ?_
              exact hT43 (x5, (v43.2.1 + 1), a9)
            · refine pv_icmp_ge (tgt := 110) dX10_year_89 (by decide) ?_ ?_
              · refine pv_iload dX10_year_110 rfl ?_
                refine pv_iconst (v := 3) dX10_year_112 (by decide) ?_
                refine pv_icmp_ne (tgt := 129) dX10_year_113 (by decide) ?_ ?_
                · refine pv_iload dX10_year_129 rfl ?_
                  refine pv_iconst (v := 4) dX10_year_131 (by decide) ?_
                  refine pv_icmp_ne (tgt := 153) dX10_year_132 (by decide) ?_ ?_
                  · refine pv_aload_n dX10_year_153 rfl ?_
                    refine pv_iload dX10_year_154 rfl ?_
                    refine pv_iconst (v := 5) dX10_year_156 (by decide) ?_
                    refine pv_jn (pcJ := 177) (lsJ := fun a10 => [some (.ref 50), none, some (.int p2), some (.int p3), some (.int x5), some (.int v43.2.1), none, none, none]) (stJ := fun a10 => [.int a10.1, .ref 50]) (mJ := fun a10 => a10.2) (fun a10 => ?_) (fun j177 hj177 => ?_)
                    · refine pv_puti dX10_year_177 fp_X10_126 sh_50 rfl rfl rfl ?_
                      refine pv_letM (fun m11 => ?_)
                      exact hj180 m11
                    · refine pv_icmp_ne (tgt := 173) dX10_year_157 (by decide) ?_ ?_
                      · refine pv_aload_n dX10_year_173 rfl ?_
                        refine pv_cv_wi (rest := [.ref 50]) dX10_year_174 my_X10_endDay vl_X10_120 (k_X10_endDay l v43.2.2) sh_50 rfl rfl ⟨rfl, rfl, Nat.le_of_ble_eq_true rfl, Nat.le_of_ble_eq_true rfl⟩ ⟨Nat.zero_le _, Nat.zero_le _⟩ (Nat.le_of_ble_eq_true rfl) rfl (fun r12 => ?_)
                        refine pv_mask (ls' := [some (.ref 50), none, some (.int p2), some (.int p3), some (.int x5), some (.int v43.2.1), none, none, none]) [true, false, true, true, true, true, false, false, false] rfl ?_
                        exact hj177 (r12.1, r12.2)
                      · refine pv_aload_n dX10_year_160 rfl ?_
                        refine pv_iconst (v := 1) dX10_year_161 (by decide) ?_
                        refine pv_iload dX10_year_162 rfl ?_
                        refine pv_iconst (v := 3) dX10_year_164 (by decide) ?_
                        refine pv_irem dX10_year_165 (by decide) ?_
                        refine pv_iadd dX10_year_166 ?_
                        refine pv_cv_wi (rest := [.ref 50]) dX10_year_167 my_X10_blow vl_X10_105 (k_X10_blow l ((1 : Int32) + (pm_rem x8 (3 : Int32))) v43.2.2) sh_50 rfl rfl ⟨rfl, rfl, Nat.le_of_ble_eq_true rfl, Nat.le_of_ble_eq_true rfl⟩ ⟨Nat.zero_le _, Nat.zero_le _⟩ (Nat.le_of_ble_eq_true rfl) rfl (fun r13 => ?_)
                        refine pv_goto (tgt := 177) dX10_year_170 (by decide) ?_
                        refine pv_mask (ls' := [some (.ref 50), none, some (.int p2), some (.int p3), some (.int x5), some (.int v43.2.1), none, none, none]) [true, false, true, true, true, true, false, false, false] rfl ?_
                        exact hj177 (r13.1, r13.2)
                  · refine pv_aload_n dX10_year_135 rfl ?_
                    refine pv_aload_n dX10_year_136 rfl ?_
                    refine pv_iload dX10_year_137 rfl ?_
                    refine pv_iload dX10_year_139 rfl ?_
                    refine pv_bipush (v := 7) dX10_year_141 (by decide) ?_
                    refine pv_irem dX10_year_143 (by decide) ?_
                    refine pv_cv_wi (rest := [.ref 50]) dX10_year_144 my_X10_split vl_X10_111 (k_X10_split l x6 (pm_rem x8 (7 : Int32)) v43.2.2) sh_50 rfl rfl ⟨rfl, rfl, Nat.le_of_ble_eq_true rfl, Nat.le_of_ble_eq_true rfl⟩ ⟨Nat.zero_le _, Nat.zero_le _⟩ (Nat.le_of_ble_eq_true rfl) rfl (fun r14 => ?_)
                    refine pv_puti dX10_year_147 fp_X10_126 sh_50 rfl rfl rfl ?_
                    refine pv_letM (fun m15 => ?_)
                    refine pv_goto (tgt := 180) dX10_year_150 (by decide) ?_
                    refine pv_mask (ls' := [some (.ref 50), none, some (.int p2), some (.int p3), some (.int x5), some (.int v43.2.1), none, none, none]) [true, false, true, true, true, true, false, false, false] rfl ?_
                    exact hj180 m15
                · refine pv_aload_n dX10_year_116 rfl ?_
                  refine pv_aload_n dX10_year_117 rfl ?_
                  refine pv_iload dX10_year_118 rfl ?_
                  refine pv_cv_wi (rest := [.ref 50]) dX10_year_120 my_X10_mend vl_X10_108 (k_X10_mend l x6 v43.2.2) sh_50 rfl rfl ⟨rfl, rfl, Nat.le_of_ble_eq_true rfl, Nat.le_of_ble_eq_true rfl⟩ ⟨Nat.zero_le _, Nat.zero_le _⟩ (Nat.le_of_ble_eq_true rfl) rfl (fun r16 => ?_)
                  refine pv_puti dX10_year_123 fp_X10_126 sh_50 rfl rfl rfl ?_
                  refine pv_letM (fun m17 => ?_)
                  refine pv_goto (tgt := 180) dX10_year_126 (by decide) ?_
                  refine pv_mask (ls' := [some (.ref 50), none, some (.int p2), some (.int p3), some (.int x5), some (.int v43.2.1), none, none, none]) [true, false, true, true, true, true, false, false, false] rfl ?_
                  exact hj180 m17
              · refine pv_aload_n dX10_year_92 rfl ?_
                refine pv_aload_n dX10_year_93 rfl ?_
                refine pv_iload dX10_year_94 rfl ?_
                refine pv_iload dX10_year_96 rfl ?_
                refine pv_bipush (v := 7) dX10_year_98 (by decide) ?_
                refine pv_irem dX10_year_100 (by decide) ?_
                refine pv_cv_wi (rest := [.ref 50]) dX10_year_101 my_X10_go vl_X10_114 (k_X10_go l x6 (pm_rem x8 (7 : Int32)) v43.2.2) sh_50 rfl rfl ⟨rfl, rfl, Nat.le_of_ble_eq_true rfl, Nat.le_of_ble_eq_true rfl⟩ ⟨Nat.zero_le _, Nat.zero_le _⟩ (Nat.le_of_ble_eq_true rfl) rfl (fun r18 => ?_)
                refine pv_puti dX10_year_104 fp_X10_126 sh_50 rfl rfl rfl ?_
                refine pv_letM (fun m19 => ?_)
                refine pv_goto (tgt := 180) dX10_year_107 (by decide) ?_
                refine pv_mask (ls' := [some (.ref 50), none, some (.int p2), some (.int p3), some (.int x5), some (.int v43.2.1), none, none, none]) [true, false, true, true, true, true, false, false, false] rfl ?_
                exact hj180 m19
      · refine pv_bipush (v := (-2)) dX10_year_30 (by decide) ?_
        exact pv_iret dX10_year_32 rfl rfl rfl
def f_X10_image_b20 (x2 : Int32) (v20 : (Int32 × pm_M)) (T20 : ((Int32 × pm_M) → Option (Int32 × pm_M))) (E20 : (pm_M → Option (Int32 × pm_M))) : Option (Int32 × pm_M) :=
  (if (64 : Int32) ≤ v20.1 then (E20 v20.2) else pm_ck v20.1 64 (pm_ck (x2 + v20.1) 360 (pm_let (pm_up v20.2 66 (Int32.toNatClampNeg (x2 + v20.1)) (v20.2 51 (Int32.toNatClampNeg v20.1))) (fun m3 => (T20 ((v20.1 + 1), m3))))))
def f_X10_image_b48 (x2 : Int32) (v48 : (Int32 × pm_M)) (T48 : ((Int32 × pm_M) → Option (Int32 × pm_M))) (E48 : (pm_M → Option (Int32 × pm_M))) : Option (Int32 × pm_M) :=
  (if (49 : Int32) ≤ v48.1 then (E48 v48.2) else pm_ck v48.1 49 (pm_ck ((x2 + (64 : Int32)) + v48.1) 360 (pm_let (pm_up v48.2 66 (Int32.toNatClampNeg ((x2 + (64 : Int32)) + v48.1)) (v48.2 53 (Int32.toNatClampNeg v48.1))) (fun m4 => (T48 ((v48.1 + 1), m4))))))
def f_X10_image_b79 (x2 : Int32) (v79 : (Int32 × pm_M)) (T79 : ((Int32 × pm_M) → Option (Int32 × pm_M))) (E79 : (pm_M → Option (Int32 × pm_M))) : Option (Int32 × pm_M) :=
  (if (32 : Int32) ≤ v79.1 then (E79 v79.2) else pm_ck v79.1 32 (pm_ck ((x2 + (113 : Int32)) + v79.1) 360 (pm_let (pm_up v79.2 66 (Int32.toNatClampNeg ((x2 + (113 : Int32)) + v79.1)) (v79.2 54 (Int32.toNatClampNeg v79.1))) (fun m5 => (T79 ((v79.1 + 1), m5))))))
def f_X10_image_b110 (x2 : Int32) (v110 : (Int32 × pm_M)) (T110 : ((Int32 × pm_M) → Option (Int32 × pm_M))) (E110 : (pm_M → Option (Int32 × pm_M))) : Option (Int32 × pm_M) :=
  (if (24 : Int32) ≤ v110.1 then (E110 v110.2) else pm_ck v110.1 24 (pm_ck ((x2 + (145 : Int32)) + v110.1) 360 (pm_let (pm_up v110.2 66 (Int32.toNatClampNeg ((x2 + (145 : Int32)) + v110.1)) (v110.2 55 (Int32.toNatClampNeg v110.1))) (fun m6 => (T110 ((v110.1 + 1), m6))))))
def f_X10_image (p1 : Int32) (μ : pm_M) : Option (Int32 × pm_M) :=
  (f_X10_in p1 (0 : Int32) (1 : Int32)).bind (fun r1 => (if r1 = 0 then (some ((-2 : Int32), μ)) else pm_let ((180 : Int32) * p1) (fun x2 => (pm_it (f_X10_image_b20 x2) 5000 ((0 : Int32), μ) (fun e20 => (pm_it (f_X10_image_b48 x2) 5000 ((0 : Int32), e20) (fun e48 => (pm_it (f_X10_image_b79 x2) 5000 ((0 : Int32), e48) (fun e79 => (pm_it (f_X10_image_b110 x2) 5000 ((0 : Int32), e79) (fun e110 => pm_ck (x2 + (170 : Int32)) 360 (pm_let (pm_up e110 66 (Int32.toNatClampNeg (x2 + (170 : Int32))) (e110 50 4)) (fun m7 => pm_ck p1 2 (pm_let (pm_up m7 67 (Int32.toNatClampNeg p1) (1 : Int32)) (fun m8 => (some ((1 : Int32), m8)))))))))))))))))
abbrev rm_X10_image : Room := { frames := 1, cells := 0, slots := 0, locals := 22 }
set_option maxRecDepth 20000 in
set_option maxHeartbeats 2000000 in
theorem k_X10_image (l : Launch) (p1 : Int32) (μ : pm_M) : pm_Ok l yX10_image cX10_image 4 (some .int) rm_X10_image [.ref 50, .int p1] SH false SH 0 0 (fun r => (some (.int r.1), r.2)) μ (f_X10_image p1 μ) := by
  refine pm_enter (own := RX10) (by decide) rfl (fun h => by cases h) (ls := [some (.ref 50), some (.int p1), none, none]) rfl (fun _ => Nat.le_of_ble_eq_true rfl) ?_
  unfold f_X10_image
  refine pv_iload_n dX10_image_0 rfl ?_
  refine pv_iconst (v := 0) dX10_image_1 (by decide) ?_
  refine pv_iconst (v := 1) dX10_image_2 (by decide) ?_
  refine pv_cs_ri (rest := []) dX10_image_3 my_X10_in sl_X10_62 (k_X10_in l SH p1 (0 : Int32) (1 : Int32) μ) rfl ⟨rfl, rfl, Nat.le_of_ble_eq_true rfl, Nat.le_of_ble_eq_true rfl⟩ ⟨Nat.zero_le _, Nat.zero_le _⟩ (Nat.le_of_ble_eq_true rfl) rfl (fun r1 => ?_)
  refine pv_if_ne (tgt := 12) dX10_image_6 (by decide) ?_ ?_
  · refine pv_sipush (v := 180) dX10_image_12 (by decide) ?_
    refine pv_iload_n dX10_image_15 rfl ?_
    refine pv_imul dX10_image_16 ?_
    refine pv_let (fun x2 => ?_)
    refine pv_istore_n (ls' := [some (.ref 50), some (.int p1), some (.int x2), none]) dX10_image_17 (Nat.le_of_ble_eq_true rfl) rfl ?_
    refine pv_iconst (v := 0) dX10_image_18 (by decide) ?_
    refine pv_istore_n (ls' := [some (.ref 50), some (.int p1), some (.int x2), some (.int (0 : Int32))]) dX10_image_19 (Nat.le_of_ble_eq_true rfl) rfl ?_
    refine pv_loop (body := (f_X10_image_b20 x2)) (pcE := 46) (lsf := fun v20 => [some (.ref 50), some (.int p1), some (.int x2), some (.int v20.1)]) (mf := fun v20 => v20.2) (lsE := fun e20 => [some (.ref 50), some (.int p1), some (.int x2), none]) (mE := fun e20 => e20) (fun e20 => ?_) (fun E20 hE20 T20 hT20 v20 => ?_) 5000 ((0 : Int32), μ)
    · refine pv_iconst (v := 0) dX10_image_46 (by decide) ?_
      refine pv_istore_n (ls' := [some (.ref 50), some (.int p1), some (.int x2), some (.int (0 : Int32))]) dX10_image_47 (Nat.le_of_ble_eq_true rfl) rfl ?_
      refine pv_loop (body := (f_X10_image_b48 x2)) (pcE := 77) (lsf := fun v48 => [some (.ref 50), some (.int p1), some (.int x2), some (.int v48.1)]) (mf := fun v48 => v48.2) (lsE := fun e48 => [some (.ref 50), some (.int p1), some (.int x2), none]) (mE := fun e48 => e48) (fun e48 => ?_) (fun E48 hE48 T48 hT48 v48 => ?_) 5000 ((0 : Int32), e20)
      · refine pv_iconst (v := 0) dX10_image_77 (by decide) ?_
        refine pv_istore_n (ls' := [some (.ref 50), some (.int p1), some (.int x2), some (.int (0 : Int32))]) dX10_image_78 (Nat.le_of_ble_eq_true rfl) rfl ?_
        refine pv_loop (body := (f_X10_image_b79 x2)) (pcE := 108) (lsf := fun v79 => [some (.ref 50), some (.int p1), some (.int x2), some (.int v79.1)]) (mf := fun v79 => v79.2) (lsE := fun e79 => [some (.ref 50), some (.int p1), some (.int x2), none]) (mE := fun e79 => e79) (fun e79 => ?_) (fun E79 hE79 T79 hT79 v79 => ?_) 5000 ((0 : Int32), e48)
        · refine pv_iconst (v := 0) dX10_image_108 (by decide) ?_
          refine pv_istore_n (ls' := [some (.ref 50), some (.int p1), some (.int x2), some (.int (0 : Int32))]) dX10_image_109 (Nat.le_of_ble_eq_true rfl) rfl ?_
          refine pv_loop (body := (f_X10_image_b110 x2)) (pcE := 140) (lsf := fun v110 => [some (.ref 50), some (.int p1), some (.int x2), some (.int v110.1)]) (mf := fun v110 => v110.2) (lsE := fun e110 => [some (.ref 50), some (.int p1), some (.int x2), none]) (mE := fun e110 => e110) (fun e110 => ?_) (fun E110 hE110 T110 hT110 v110 => ?_) 5000 ((0 : Int32), e79)
          · refine pv_aload_n dX10_image_140 rfl ?_
            refine pv_getr dX10_image_141 fl_X10_56 sh_50 rfl ?_
            refine pv_iload_n dX10_image_144 rfl ?_
            refine pv_sipush (v := 170) dX10_image_145 (by decide) ?_
            refine pv_iadd dX10_image_148 ?_
            refine pv_aload_n dX10_image_149 rfl ?_
            refine pv_geti dX10_image_150 fl_X10_157 sh_50 rfl ?_
            refine pv_iast dX10_image_153 sh_66 ?_
            refine pv_letM (fun m7 => ?_)
            refine pv_aload_n dX10_image_154 rfl ?_
            refine pv_getr dX10_image_155 fl_X10_59 sh_50 rfl ?_
            refine pv_iload_n dX10_image_158 rfl ?_
            refine pv_iconst (v := 1) dX10_image_159 (by decide) ?_
            refine pv_zast dX10_image_160 sh_67 rfl ?_
            refine pv_letM (fun m8 => ?_)
            refine pv_iconst (v := 1) dX10_image_161 (by decide) ?_
            exact pv_iret dX10_image_162 rfl rfl rfl
          · unfold f_X10_image_b110
            refine pv_iload_n dX10_image_110 rfl ?_
            refine pv_bipush (v := 24) dX10_image_111 (by decide) ?_
            refine pv_icmp_ge (tgt := 140) dX10_image_113 (by decide) ?_ ?_
            · refine pv_mask (ls' := [some (.ref 50), some (.int p1), some (.int x2), none]) [true, true, true, false] rfl ?_
              exact hE110 v110.2
            · refine pv_aload_n dX10_image_116 rfl ?_
              refine pv_getr dX10_image_117 fl_X10_56 sh_50 rfl ?_
              refine pv_iload_n dX10_image_120 rfl ?_
              refine pv_sipush (v := 145) dX10_image_121 (by decide) ?_
              refine pv_iadd dX10_image_124 ?_
              refine pv_iload_n dX10_image_125 rfl ?_
              refine pv_iadd dX10_image_126 ?_
              refine pv_aload_n dX10_image_127 rfl ?_
              refine pv_getr dX10_image_128 fl_X10_22 sh_50 rfl ?_
              refine pv_iload_n dX10_image_131 rfl ?_
              refine pv_iald dX10_image_132 sh_55 ?_
              refine pv_iast dX10_image_133 sh_66 ?_
              refine pv_letM (fun m6 => ?_)
              refine pv_iinc (v := (v110.1 + 1)) (ls' := [some (.ref 50), some (.int p1), some (.int x2), some (.int (v110.1 + 1))]) dX10_image_134 rfl rfl (Nat.le_of_ble_eq_true rfl) rfl ?_
              refine pv_goto (tgt := 110) dX10_image_137 (by decide) ?_
              exact hT110 ((v110.1 + 1), m6)
        · unfold f_X10_image_b79
          refine pv_iload_n dX10_image_79 rfl ?_
          refine pv_bipush (v := 32) dX10_image_80 (by decide) ?_
          refine pv_icmp_ge (tgt := 108) dX10_image_82 (by decide) ?_ ?_
          · refine pv_mask (ls' := [some (.ref 50), some (.int p1), some (.int x2), none]) [true, true, true, false] rfl ?_
            exact hE79 v79.2
          · refine pv_aload_n dX10_image_85 rfl ?_
            refine pv_getr dX10_image_86 fl_X10_56 sh_50 rfl ?_
            refine pv_iload_n dX10_image_89 rfl ?_
            refine pv_bipush (v := 113) dX10_image_90 (by decide) ?_
            refine pv_iadd dX10_image_92 ?_
            refine pv_iload_n dX10_image_93 rfl ?_
            refine pv_iadd dX10_image_94 ?_
            refine pv_aload_n dX10_image_95 rfl ?_
            refine pv_getr dX10_image_96 fl_X10_19 sh_50 rfl ?_
            refine pv_iload_n dX10_image_99 rfl ?_
            refine pv_iald dX10_image_100 sh_54 ?_
            refine pv_iast dX10_image_101 sh_66 ?_
            refine pv_letM (fun m5 => ?_)
            refine pv_iinc (v := (v79.1 + 1)) (ls' := [some (.ref 50), some (.int p1), some (.int x2), some (.int (v79.1 + 1))]) dX10_image_102 rfl rfl (Nat.le_of_ble_eq_true rfl) rfl ?_
            refine pv_goto (tgt := 79) dX10_image_105 (by decide) ?_
            exact hT79 ((v79.1 + 1), m5)
      · unfold f_X10_image_b48
        refine pv_iload_n dX10_image_48 rfl ?_
        refine pv_bipush (v := 49) dX10_image_49 (by decide) ?_
        refine pv_icmp_ge (tgt := 77) dX10_image_51 (by decide) ?_ ?_
        · refine pv_mask (ls' := [some (.ref 50), some (.int p1), some (.int x2), none]) [true, true, true, false] rfl ?_
          exact hE48 v48.2
        · refine pv_aload_n dX10_image_54 rfl ?_
          refine pv_getr dX10_image_55 fl_X10_56 sh_50 rfl ?_
          refine pv_iload_n dX10_image_58 rfl ?_
          refine pv_bipush (v := 64) dX10_image_59 (by decide) ?_
          refine pv_iadd dX10_image_61 ?_
          refine pv_iload_n dX10_image_62 rfl ?_
          refine pv_iadd dX10_image_63 ?_
          refine pv_aload_n dX10_image_64 rfl ?_
          refine pv_getr dX10_image_65 fl_X10_16 sh_50 rfl ?_
          refine pv_iload_n dX10_image_68 rfl ?_
          refine pv_iald dX10_image_69 sh_53 ?_
          refine pv_iast dX10_image_70 sh_66 ?_
          refine pv_letM (fun m4 => ?_)
          refine pv_iinc (v := (v48.1 + 1)) (ls' := [some (.ref 50), some (.int p1), some (.int x2), some (.int (v48.1 + 1))]) dX10_image_71 rfl rfl (Nat.le_of_ble_eq_true rfl) rfl ?_
          refine pv_goto (tgt := 48) dX10_image_74 (by decide) ?_
          exact hT48 ((v48.1 + 1), m4)
    · unfold f_X10_image_b20
      refine pv_iload_n dX10_image_20 rfl ?_
      refine pv_bipush (v := 64) dX10_image_21 (by decide) ?_
      refine pv_icmp_ge (tgt := 46) dX10_image_23 (by decide) ?_ ?_
      · refine pv_mask (ls' := [some (.ref 50), some (.int p1), some (.int x2), none]) [true, true, true, false] rfl ?_
        exact hE20 v20.2
      · refine pv_aload_n dX10_image_26 rfl ?_
        refine pv_getr dX10_image_27 fl_X10_56 sh_50 rfl ?_
        refine pv_iload_n dX10_image_30 rfl ?_
        refine pv_iload_n dX10_image_31 rfl ?_
        refine pv_iadd dX10_image_32 ?_
        refine pv_aload_n dX10_image_33 rfl ?_
        refine pv_getr dX10_image_34 fl_X10_7 sh_50 rfl ?_
        refine pv_iload_n dX10_image_37 rfl ?_
        refine pv_iald dX10_image_38 sh_51 ?_
        refine pv_iast dX10_image_39 sh_66 ?_
        refine pv_letM (fun m3 => ?_)
        refine pv_iinc (v := (v20.1 + 1)) (ls' := [some (.ref 50), some (.int p1), some (.int x2), some (.int (v20.1 + 1))]) dX10_image_40 rfl rfl (Nat.le_of_ble_eq_true rfl) rfl ?_
        refine pv_goto (tgt := 20) dX10_image_43 (by decide) ?_
        exact hT20 ((v20.1 + 1), m3)
  · refine pv_bipush (v := (-2)) dX10_image_9 (by decide) ?_
    exact pv_iret dX10_image_11 rfl rfl rfl
def f_X10_restore_b32 (x2 : Int32) (v32 : (Int32 × pm_M)) (T32 : ((Int32 × pm_M) → Option (Int32 × pm_M))) (E32 : (pm_M → Option (Int32 × pm_M))) : Option (Int32 × pm_M) :=
  (if (64 : Int32) ≤ v32.1 then (E32 v32.2) else pm_ck (x2 + v32.1) 360 (pm_ck v32.1 64 (pm_let (pm_up v32.2 51 (Int32.toNatClampNeg v32.1) (v32.2 66 (Int32.toNatClampNeg (x2 + v32.1)))) (fun m3 => (T32 ((v32.1 + 1), m3))))))
def f_X10_restore_b60 (x2 : Int32) (v60 : (Int32 × pm_M)) (T60 : ((Int32 × pm_M) → Option (Int32 × pm_M))) (E60 : (pm_M → Option (Int32 × pm_M))) : Option (Int32 × pm_M) :=
  (if (49 : Int32) ≤ v60.1 then (E60 v60.2) else pm_ck ((x2 + (64 : Int32)) + v60.1) 360 (pm_ck v60.1 49 (pm_let (pm_up v60.2 53 (Int32.toNatClampNeg v60.1) (v60.2 66 (Int32.toNatClampNeg ((x2 + (64 : Int32)) + v60.1)))) (fun m4 => (T60 ((v60.1 + 1), m4))))))
def f_X10_restore_b91 (x2 : Int32) (v91 : (Int32 × pm_M)) (T91 : ((Int32 × pm_M) → Option (Int32 × pm_M))) (E91 : (pm_M → Option (Int32 × pm_M))) : Option (Int32 × pm_M) :=
  (if (32 : Int32) ≤ v91.1 then (E91 v91.2) else pm_ck ((x2 + (113 : Int32)) + v91.1) 360 (pm_ck v91.1 32 (pm_let (pm_up v91.2 54 (Int32.toNatClampNeg v91.1) (v91.2 66 (Int32.toNatClampNeg ((x2 + (113 : Int32)) + v91.1)))) (fun m5 => (T91 ((v91.1 + 1), m5))))))
def f_X10_restore_b122 (x2 : Int32) (v122 : (Int32 × pm_M)) (T122 : ((Int32 × pm_M) → Option (Int32 × pm_M))) (E122 : (pm_M → Option (Int32 × pm_M))) : Option (Int32 × pm_M) :=
  (if (24 : Int32) ≤ v122.1 then (E122 v122.2) else pm_ck ((x2 + (145 : Int32)) + v122.1) 360 (pm_ck v122.1 24 (pm_let (pm_up v122.2 55 (Int32.toNatClampNeg v122.1) (v122.2 66 (Int32.toNatClampNeg ((x2 + (145 : Int32)) + v122.1)))) (fun m6 => (T122 ((v122.1 + 1), m6))))))
def f_X10_restore (p1 : Int32) (μ : pm_M) : Option (Int32 × pm_M) :=
  (f_X10_in p1 (0 : Int32) (1 : Int32)).bind (fun r1 => (if r1 = 0 then (some ((-2 : Int32), μ)) else pm_ck p1 2 ((if (μ 67 (Int32.toNatClampNeg p1)) = 0 then (some ((-3 : Int32), μ)) else pm_let ((180 : Int32) * p1) (fun x2 => (pm_it (f_X10_restore_b32 x2) 5000 ((0 : Int32), μ) (fun e32 => (pm_it (f_X10_restore_b60 x2) 5000 ((0 : Int32), e32) (fun e60 => (pm_it (f_X10_restore_b91 x2) 5000 ((0 : Int32), e60) (fun e91 => (pm_it (f_X10_restore_b122 x2) 5000 ((0 : Int32), e91) (fun e122 => pm_ck (x2 + (170 : Int32)) 360 (pm_let (pm_up e122 50 4 (e122 66 (Int32.toNatClampNeg (x2 + (170 : Int32))))) (fun m7 => (some ((1 : Int32), m7)))))))))))))))))
abbrev rm_X10_restore : Room := { frames := 1, cells := 0, slots := 0, locals := 22 }
set_option maxRecDepth 20000 in
set_option maxHeartbeats 2000000 in
theorem k_X10_restore (l : Launch) (p1 : Int32) (μ : pm_M) : pm_Ok l yX10_restore cX10_restore 4 (some .int) rm_X10_restore [.ref 50, .int p1] SH false SH 0 0 (fun r => (some (.int r.1), r.2)) μ (f_X10_restore p1 μ) := by
  refine pm_enter (own := RX10) (by decide) rfl (fun h => by cases h) (ls := [some (.ref 50), some (.int p1), none, none]) rfl (fun _ => Nat.le_of_ble_eq_true rfl) ?_
  unfold f_X10_restore
  refine pv_iload_n dX10_restore_0 rfl ?_
  refine pv_iconst (v := 0) dX10_restore_1 (by decide) ?_
  refine pv_iconst (v := 1) dX10_restore_2 (by decide) ?_
  refine pv_cs_ri (rest := []) dX10_restore_3 my_X10_in sl_X10_62 (k_X10_in l SH p1 (0 : Int32) (1 : Int32) μ) rfl ⟨rfl, rfl, Nat.le_of_ble_eq_true rfl, Nat.le_of_ble_eq_true rfl⟩ ⟨Nat.zero_le _, Nat.zero_le _⟩ (Nat.le_of_ble_eq_true rfl) rfl (fun r1 => ?_)
  refine pv_if_ne (tgt := 12) dX10_restore_6 (by decide) ?_ ?_
  · refine pv_aload_n dX10_restore_12 rfl ?_
    refine pv_getr dX10_restore_13 fl_X10_59 sh_50 rfl ?_
    refine pv_iload_n dX10_restore_16 rfl ?_
    refine pv_zald dX10_restore_17 sh_67 ?_
    refine pv_if_ne (tgt := 24) dX10_restore_18 (by decide) ?_ ?_
    · refine pv_sipush (v := 180) dX10_restore_24 (by decide) ?_
      refine pv_iload_n dX10_restore_27 rfl ?_
      refine pv_imul dX10_restore_28 ?_
      refine pv_let (fun x2 => ?_)
      refine pv_istore_n (ls' := [some (.ref 50), some (.int p1), some (.int x2), none]) dX10_restore_29 (Nat.le_of_ble_eq_true rfl) rfl ?_
      refine pv_iconst (v := 0) dX10_restore_30 (by decide) ?_
      refine pv_istore_n (ls' := [some (.ref 50), some (.int p1), some (.int x2), some (.int (0 : Int32))]) dX10_restore_31 (Nat.le_of_ble_eq_true rfl) rfl ?_
      refine pv_mask (ls' := [some (.ref 50), none, some (.int x2), some (.int (0 : Int32))]) [true, false, true, true] rfl ?_
      refine pv_loop (body := (f_X10_restore_b32 x2)) (pcE := 58) (lsf := fun v32 => [some (.ref 50), none, some (.int x2), some (.int v32.1)]) (mf := fun v32 => v32.2) (lsE := fun e32 => [some (.ref 50), none, some (.int x2), none]) (mE := fun e32 => e32) (fun e32 => ?_) (fun E32 hE32 T32 hT32 v32 => ?_) 5000 ((0 : Int32), μ)
      · refine pv_iconst (v := 0) dX10_restore_58 (by decide) ?_
        refine pv_istore_n (ls' := [some (.ref 50), none, some (.int x2), some (.int (0 : Int32))]) dX10_restore_59 (Nat.le_of_ble_eq_true rfl) rfl ?_
        refine pv_loop (body := (f_X10_restore_b60 x2)) (pcE := 89) (lsf := fun v60 => [some (.ref 50), none, some (.int x2), some (.int v60.1)]) (mf := fun v60 => v60.2) (lsE := fun e60 => [some (.ref 50), none, some (.int x2), none]) (mE := fun e60 => e60) (fun e60 => ?_) (fun E60 hE60 T60 hT60 v60 => ?_) 5000 ((0 : Int32), e32)
        · refine pv_iconst (v := 0) dX10_restore_89 (by decide) ?_
          refine pv_istore_n (ls' := [some (.ref 50), none, some (.int x2), some (.int (0 : Int32))]) dX10_restore_90 (Nat.le_of_ble_eq_true rfl) rfl ?_
          refine pv_loop (body := (f_X10_restore_b91 x2)) (pcE := 120) (lsf := fun v91 => [some (.ref 50), none, some (.int x2), some (.int v91.1)]) (mf := fun v91 => v91.2) (lsE := fun e91 => [some (.ref 50), none, some (.int x2), none]) (mE := fun e91 => e91) (fun e91 => ?_) (fun E91 hE91 T91 hT91 v91 => ?_) 5000 ((0 : Int32), e60)
          · refine pv_iconst (v := 0) dX10_restore_120 (by decide) ?_
            refine pv_istore_n (ls' := [some (.ref 50), none, some (.int x2), some (.int (0 : Int32))]) dX10_restore_121 (Nat.le_of_ble_eq_true rfl) rfl ?_
            refine pv_loop (body := (f_X10_restore_b122 x2)) (pcE := 152) (lsf := fun v122 => [some (.ref 50), none, some (.int x2), some (.int v122.1)]) (mf := fun v122 => v122.2) (lsE := fun e122 => [some (.ref 50), none, some (.int x2), none]) (mE := fun e122 => e122) (fun e122 => ?_) (fun E122 hE122 T122 hT122 v122 => ?_) 5000 ((0 : Int32), e91)
            · refine pv_aload_n dX10_restore_152 rfl ?_
              refine pv_aload_n dX10_restore_153 rfl ?_
              refine pv_getr dX10_restore_154 fl_X10_56 sh_50 rfl ?_
              refine pv_iload_n dX10_restore_157 rfl ?_
              refine pv_sipush (v := 170) dX10_restore_158 (by decide) ?_
              refine pv_iadd dX10_restore_161 ?_
              refine pv_iald dX10_restore_162 sh_66 ?_
              refine pv_puti dX10_restore_163 fp_X10_157 sh_50 rfl rfl rfl ?_
              refine pv_letM (fun m7 => ?_)
              refine pv_iconst (v := 1) dX10_restore_166 (by decide) ?_
              exact pv_iret dX10_restore_167 rfl rfl rfl
            · unfold f_X10_restore_b122
              refine pv_iload_n dX10_restore_122 rfl ?_
              refine pv_bipush (v := 24) dX10_restore_123 (by decide) ?_
              refine pv_icmp_ge (tgt := 152) dX10_restore_125 (by decide) ?_ ?_
              · refine pv_mask (ls' := [some (.ref 50), none, some (.int x2), none]) [true, false, true, false] rfl ?_
                exact hE122 v122.2
              · refine pv_aload_n dX10_restore_128 rfl ?_
                refine pv_getr dX10_restore_129 fl_X10_22 sh_50 rfl ?_
                refine pv_iload_n dX10_restore_132 rfl ?_
                refine pv_aload_n dX10_restore_133 rfl ?_
                refine pv_getr dX10_restore_134 fl_X10_56 sh_50 rfl ?_
                refine pv_iload_n dX10_restore_137 rfl ?_
                refine pv_sipush (v := 145) dX10_restore_138 (by decide) ?_
                refine pv_iadd dX10_restore_141 ?_
                refine pv_iload_n dX10_restore_142 rfl ?_
                refine pv_iadd dX10_restore_143 ?_
                refine pv_iald dX10_restore_144 sh_66 ?_
                refine pv_iast dX10_restore_145 sh_55 ?_
                refine pv_letM (fun m6 => ?_)
                refine pv_iinc (v := (v122.1 + 1)) (ls' := [some (.ref 50), none, some (.int x2), some (.int (v122.1 + 1))]) dX10_restore_146 rfl rfl (Nat.le_of_ble_eq_true rfl) rfl ?_
                refine pv_goto (tgt := 122) dX10_restore_149 (by decide) ?_
                exact hT122 ((v122.1 + 1), m6)
          · unfold f_X10_restore_b91
            refine pv_iload_n dX10_restore_91 rfl ?_
            refine pv_bipush (v := 32) dX10_restore_92 (by decide) ?_
            refine pv_icmp_ge (tgt := 120) dX10_restore_94 (by decide) ?_ ?_
            · refine pv_mask (ls' := [some (.ref 50), none, some (.int x2), none]) [true, false, true, false] rfl ?_
              exact hE91 v91.2
            · refine pv_aload_n dX10_restore_97 rfl ?_
              refine pv_getr dX10_restore_98 fl_X10_19 sh_50 rfl ?_
              refine pv_iload_n dX10_restore_101 rfl ?_
              refine pv_aload_n dX10_restore_102 rfl ?_
              refine pv_getr dX10_restore_103 fl_X10_56 sh_50 rfl ?_
              refine pv_iload_n dX10_restore_106 rfl ?_
              refine pv_bipush (v := 113) dX10_restore_107 (by decide) ?_
              refine pv_iadd dX10_restore_109 ?_
              refine pv_iload_n dX10_restore_110 rfl ?_
              refine pv_iadd dX10_restore_111 ?_
              refine pv_iald dX10_restore_112 sh_66 ?_
              refine pv_iast dX10_restore_113 sh_54 ?_
              refine pv_letM (fun m5 => ?_)
              refine pv_iinc (v := (v91.1 + 1)) (ls' := [some (.ref 50), none, some (.int x2), some (.int (v91.1 + 1))]) dX10_restore_114 rfl rfl (Nat.le_of_ble_eq_true rfl) rfl ?_
              refine pv_goto (tgt := 91) dX10_restore_117 (by decide) ?_
              exact hT91 ((v91.1 + 1), m5)
        · unfold f_X10_restore_b60
          refine pv_iload_n dX10_restore_60 rfl ?_
          refine pv_bipush (v := 49) dX10_restore_61 (by decide) ?_
          refine pv_icmp_ge (tgt := 89) dX10_restore_63 (by decide) ?_ ?_
          · refine pv_mask (ls' := [some (.ref 50), none, some (.int x2), none]) [true, false, true, false] rfl ?_
            exact hE60 v60.2
          · refine pv_aload_n dX10_restore_66 rfl ?_
            refine pv_getr dX10_restore_67 fl_X10_16 sh_50 rfl ?_
            refine pv_iload_n dX10_restore_70 rfl ?_
            refine pv_aload_n dX10_restore_71 rfl ?_
            refine pv_getr dX10_restore_72 fl_X10_56 sh_50 rfl ?_
            refine pv_iload_n dX10_restore_75 rfl ?_
            refine pv_bipush (v := 64) dX10_restore_76 (by decide) ?_
            refine pv_iadd dX10_restore_78 ?_
            refine pv_iload_n dX10_restore_79 rfl ?_
            refine pv_iadd dX10_restore_80 ?_
            refine pv_iald dX10_restore_81 sh_66 ?_
            refine pv_iast dX10_restore_82 sh_53 ?_
            refine pv_letM (fun m4 => ?_)
            refine pv_iinc (v := (v60.1 + 1)) (ls' := [some (.ref 50), none, some (.int x2), some (.int (v60.1 + 1))]) dX10_restore_83 rfl rfl (Nat.le_of_ble_eq_true rfl) rfl ?_
            refine pv_goto (tgt := 60) dX10_restore_86 (by decide) ?_
            exact hT60 ((v60.1 + 1), m4)
      · unfold f_X10_restore_b32
        refine pv_iload_n dX10_restore_32 rfl ?_
        refine pv_bipush (v := 64) dX10_restore_33 (by decide) ?_
        refine pv_icmp_ge (tgt := 58) dX10_restore_35 (by decide) ?_ ?_
        · refine pv_mask (ls' := [some (.ref 50), none, some (.int x2), none]) [true, false, true, false] rfl ?_
          exact hE32 v32.2
        · refine pv_aload_n dX10_restore_38 rfl ?_
          refine pv_getr dX10_restore_39 fl_X10_7 sh_50 rfl ?_
          refine pv_iload_n dX10_restore_42 rfl ?_
          refine pv_aload_n dX10_restore_43 rfl ?_
          refine pv_getr dX10_restore_44 fl_X10_56 sh_50 rfl ?_
          refine pv_iload_n dX10_restore_47 rfl ?_
          refine pv_iload_n dX10_restore_48 rfl ?_
          refine pv_iadd dX10_restore_49 ?_
          refine pv_iald dX10_restore_50 sh_66 ?_
          refine pv_iast dX10_restore_51 sh_51 ?_
          refine pv_letM (fun m3 => ?_)
          refine pv_iinc (v := (v32.1 + 1)) (ls' := [some (.ref 50), none, some (.int x2), some (.int (v32.1 + 1))]) dX10_restore_52 rfl rfl (Nat.le_of_ble_eq_true rfl) rfl ?_
          refine pv_goto (tgt := 32) dX10_restore_55 (by decide) ?_
          exact hT32 ((v32.1 + 1), m3)
    · refine pv_bipush (v := (-3)) dX10_restore_21 (by decide) ?_
      exact pv_iret dX10_restore_23 rfl rfl rfl
  · refine pv_bipush (v := (-2)) dX10_restore_9 (by decide) ?_
    exact pv_iret dX10_restore_11 rfl rfl rfl
def f_X10_told (p1 : Int32) (μ : pm_M) : Option (Int32 × pm_M) :=
  (if p1 < (100 : Int32) then (if p1 < (30 : Int32) then (if p1 < (10 : Int32) then (f_X10_asNow μ).bind (fun m1 => (pm_sw p1 [0, 1, 2, 3] [(some ((m1 50 6), m1)), (f_X10_palesOf (0 : Int32) m1).bind (fun r2 => (some (r2, m1))), (f_X10_away m1).bind (fun r3 => (some (r3, m1))), pm_ck (63 : Int32) 64 ((some ((m1 51 (Int32.toNatClampNeg (63 : Int32))), m1)))] ((if p1 = (4 : Int32) then (some ((m1 50 4), m1)) else (some ((-2 : Int32), m1)))))) else (f_X10_isFarm (pm_rem p1 (10 : Int32))).bind (fun r4 => (if r4 = 0 then (some ((-2 : Int32), μ)) else (if (20 : Int32) ≤ p1 then pm_ck ((36 : Int32) + p1) 64 ((some ((μ 51 (Int32.toNatClampNeg ((36 : Int32) + p1))), μ))) else pm_ck ((39 : Int32) + p1) 64 ((some ((μ 51 (Int32.toNatClampNeg ((39 : Int32) + p1))), μ))))))) else (if (50 : Int32) ≤ p1 then (some ((-2 : Int32), μ)) else (if (4 : Int32) ≤ (pm_rem p1 (10 : Int32)) then (some ((-2 : Int32), μ)) else (f_X10_rowOf ((p1 / (10 : Int32)) - (3 : Int32)) (pm_rem p1 (10 : Int32)) μ).bind (fun r5 => (some (r5, μ)))))) else pm_let (pm_rem (p1 / (10 : Int32)) (10 : Int32)) (fun x6 => pm_let (pm_rem p1 (10 : Int32)) (fun x7 => (if (299 : Int32) < p1 then (some ((-2 : Int32), μ)) else (f_X10_isFarm x6).bind (fun r8 => (if r8 = 0 then (some ((-2 : Int32), μ)) else (f_X10_isFarm x7).bind (fun r9 => (if r9 = 0 then (some ((-2 : Int32), μ)) else (if (200 : Int32) ≤ p1 then pm_ck (((7 : Int32) * x6) + x7) 49 ((some ((μ 53 (Int32.toNatClampNeg (((7 : Int32) * x6) + x7))), μ))) else pm_ck (((7 : Int32) * x6) + x7) 64 ((some ((μ 51 (Int32.toNatClampNeg (((7 : Int32) * x6) + x7))), μ))))))))))))
abbrev rm_X10_told : Room := { frames := 2, cells := 0, slots := 0, locals := 45 }
set_option maxRecDepth 20000 in
set_option maxHeartbeats 2000000 in
theorem k_X10_told (l : Launch) (p1 : Int32) (μ : pm_M) : pm_Ok l yX10_told cX10_told 4 (some .int) rm_X10_told [.ref 50, .int p1] SH false SH 0 0 (fun r => (some (.int r.1), r.2)) μ (f_X10_told p1 μ) := by
  refine pm_enter (own := RX10) (by decide) rfl (fun h => by cases h) (ls := [some (.ref 50), some (.int p1), none, none]) rfl (fun _ => Nat.le_of_ble_eq_true rfl) ?_
  unfold f_X10_told
  refine pv_iload_n dX10_told_0 rfl ?_
  refine pv_bipush (v := 100) dX10_told_1 (by decide) ?_
  refine pv_icmp_lt (tgt := 78) dX10_told_3 (by decide) ?_ ?_
  · refine pv_iload_n dX10_told_78 rfl ?_
    refine pv_bipush (v := 30) dX10_told_79 (by decide) ?_
    refine pv_icmp_lt (tgt := 118) dX10_told_81 (by decide) ?_ ?_
    · refine pv_iload_n dX10_told_118 rfl ?_
      refine pv_bipush (v := 10) dX10_told_119 (by decide) ?_
      refine pv_icmp_lt (tgt := 167) dX10_told_121 (by decide) ?_ ?_
      · refine pv_aload_n dX10_told_167 rfl ?_
        refine pv_cv_wv (rest := []) dX10_told_168 my_X10_asNow vl_X10_70 (k_X10_asNow l μ) sh_50 rfl rfl ⟨rfl, rfl, Nat.le_of_ble_eq_true rfl, Nat.le_of_ble_eq_true rfl⟩ ⟨Nat.zero_le _, Nat.zero_le _⟩ (Nat.le_of_ble_eq_true rfl) rfl (fun m1 => ?_)
        refine pv_iload_n dX10_told_171 rfl ?_
        refine pv_table (kys := [0, 1, 2, 3]) (ts := [204, 209, 215, 220]) (tD := 228) dX10_told_172 rfl (by decide) (by decide) (by decide) (by decide) ⟨?_, ?_, ?_, ?_, trivial⟩ ?_
        · refine pv_aload_n dX10_told_204 rfl ?_
          refine pv_geti dX10_told_205 fl_X10_81 sh_50 rfl ?_
          exact pv_iret dX10_told_208 rfl rfl rfl
        · refine pv_aload_n dX10_told_209 rfl ?_
          refine pv_iconst (v := 0) dX10_told_210 (by decide) ?_
          refine pv_cv_ri (rest := []) dX10_told_211 my_X10_palesOf vl_X10_73 (k_X10_palesOf l (0 : Int32) m1) sh_50 rfl rfl ⟨rfl, rfl, Nat.le_of_ble_eq_true rfl, Nat.le_of_ble_eq_true rfl⟩ ⟨Nat.zero_le _, Nat.zero_le _⟩ (Nat.le_of_ble_eq_true rfl) rfl (fun r2 => ?_)
          exact pv_iret dX10_told_214 rfl rfl rfl
        · refine pv_aload_n dX10_told_215 rfl ?_
          refine pv_cv_ri (rest := []) dX10_told_216 my_X10_away vl_X10_135 (k_X10_away l m1) sh_50 rfl rfl ⟨rfl, rfl, Nat.le_of_ble_eq_true rfl, Nat.le_of_ble_eq_true rfl⟩ ⟨Nat.zero_le _, Nat.zero_le _⟩ (Nat.le_of_ble_eq_true rfl) rfl (fun r3 => ?_)
          exact pv_iret dX10_told_219 rfl rfl rfl
        · refine pv_aload_n dX10_told_220 rfl ?_
          refine pv_getr dX10_told_221 fl_X10_7 sh_50 rfl ?_
          refine pv_bipush (v := 63) dX10_told_224 (by decide) ?_
          refine pv_iald dX10_told_226 sh_51 ?_
          exact pv_iret dX10_told_227 rfl rfl rfl
        · refine pv_iload_n dX10_told_228 rfl ?_
          refine pv_iconst (v := 4) dX10_told_229 (by decide) ?_
          refine pv_icmp_ne (tgt := 240) dX10_told_230 (by decide) ?_ ?_
          · refine pv_bipush (v := (-2)) dX10_told_240 (by decide) ?_
            exact pv_iret dX10_told_242 rfl rfl rfl
          · refine pv_aload_n dX10_told_233 rfl ?_
            refine pv_geti dX10_told_234 fl_X10_157 sh_50 rfl ?_
            refine pv_goto (tgt := 242) dX10_told_237 (by decide) ?_
            exact pv_iret dX10_told_242 rfl rfl rfl
      · refine pv_iload_n dX10_told_124 rfl ?_
        refine pv_bipush (v := 10) dX10_told_125 (by decide) ?_
        refine pv_irem dX10_told_127 (by decide) ?_
        refine pv_cs_ri (rest := []) dX10_told_128 my_X10_isFarm sl_X10_66 (k_X10_isFarm l SH (pm_rem p1 (10 : Int32)) μ) rfl ⟨rfl, rfl, Nat.le_of_ble_eq_true rfl, Nat.le_of_ble_eq_true rfl⟩ ⟨Nat.zero_le _, Nat.zero_le _⟩ (Nat.le_of_ble_eq_true rfl) rfl (fun r4 => ?_)
        refine pv_if_ne (tgt := 139) dX10_told_131 (by decide) ?_ ?_
        · refine pv_iload_n dX10_told_139 rfl ?_
          refine pv_bipush (v := 20) dX10_told_140 (by decide) ?_
          refine pv_icmp_ge (tgt := 157) dX10_told_142 (by decide) ?_ ?_
          · refine pv_aload_n dX10_told_157 rfl ?_
            refine pv_getr dX10_told_158 fl_X10_7 sh_50 rfl ?_
            refine pv_bipush (v := 36) dX10_told_161 (by decide) ?_
            refine pv_iload_n dX10_told_163 rfl ?_
            refine pv_iadd dX10_told_164 ?_
            refine pv_iald dX10_told_165 sh_51 ?_
            exact pv_iret dX10_told_166 rfl rfl rfl
          · refine pv_aload_n dX10_told_145 rfl ?_
            refine pv_getr dX10_told_146 fl_X10_7 sh_50 rfl ?_
            refine pv_bipush (v := 39) dX10_told_149 (by decide) ?_
            refine pv_iload_n dX10_told_151 rfl ?_
            refine pv_iadd dX10_told_152 ?_
            refine pv_iald dX10_told_153 sh_51 ?_
            refine pv_goto (tgt := 166) dX10_told_154 (by decide) ?_
            exact pv_iret dX10_told_166 rfl rfl rfl
        · refine pv_bipush (v := (-2)) dX10_told_134 (by decide) ?_
          refine pv_goto (tgt := 166) dX10_told_136 (by decide) ?_
          exact pv_iret dX10_told_166 rfl rfl rfl
    · refine pv_iload_n dX10_told_84 rfl ?_
      refine pv_bipush (v := 50) dX10_told_85 (by decide) ?_
      refine pv_icmp_ge (tgt := 115) dX10_told_87 (by decide) ?_ ?_
      · refine pv_bipush (v := (-2)) dX10_told_115 (by decide) ?_
        exact pv_iret dX10_told_117 rfl rfl rfl
      · refine pv_iload_n dX10_told_90 rfl ?_
        refine pv_bipush (v := 10) dX10_told_91 (by decide) ?_
        refine pv_irem dX10_told_93 (by decide) ?_
        refine pv_iconst (v := 4) dX10_told_94 (by decide) ?_
        refine pv_icmp_ge (tgt := 115) dX10_told_95 (by decide) ?_ ?_
        · refine pv_bipush (v := (-2)) dX10_told_115 (by decide) ?_
          exact pv_iret dX10_told_117 rfl rfl rfl
        · refine pv_aload_n dX10_told_98 rfl ?_
          refine pv_iload_n dX10_told_99 rfl ?_
          refine pv_bipush (v := 10) dX10_told_100 (by decide) ?_
          refine pv_idiv dX10_told_102 (by decide) ?_
          refine pv_iconst (v := 3) dX10_told_103 (by decide) ?_
          refine pv_isub dX10_told_104 ?_
          refine pv_iload_n dX10_told_105 rfl ?_
          refine pv_bipush (v := 10) dX10_told_106 (by decide) ?_
          refine pv_irem dX10_told_108 (by decide) ?_
          refine pv_cv_ri (rest := []) dX10_told_109 my_X10_rowOf vl_X10_77 (k_X10_rowOf l ((p1 / (10 : Int32)) - (3 : Int32)) (pm_rem p1 (10 : Int32)) μ) sh_50 rfl rfl ⟨rfl, rfl, Nat.le_of_ble_eq_true rfl, Nat.le_of_ble_eq_true rfl⟩ ⟨Nat.zero_le _, Nat.zero_le _⟩ (Nat.le_of_ble_eq_true rfl) rfl (fun r5 => ?_)
          refine pv_goto (tgt := 117) dX10_told_112 (by decide) ?_
          exact pv_iret dX10_told_117 rfl rfl rfl
  · refine pv_iload_n dX10_told_6 rfl ?_
    refine pv_bipush (v := 10) dX10_told_7 (by decide) ?_
    refine pv_idiv dX10_told_9 (by decide) ?_
    refine pv_bipush (v := 10) dX10_told_10 (by decide) ?_
    refine pv_irem dX10_told_12 (by decide) ?_
    refine pv_let (fun x6 => ?_)
    refine pv_istore_n (ls' := [some (.ref 50), some (.int p1), some (.int x6), none]) dX10_told_13 (Nat.le_of_ble_eq_true rfl) rfl ?_
    refine pv_iload_n dX10_told_14 rfl ?_
    refine pv_bipush (v := 10) dX10_told_15 (by decide) ?_
    refine pv_irem dX10_told_17 (by decide) ?_
    refine pv_let (fun x7 => ?_)
    refine pv_istore_n (ls' := [some (.ref 50), some (.int p1), some (.int x6), some (.int x7)]) dX10_told_18 (Nat.le_of_ble_eq_true rfl) rfl ?_
    refine pv_iload_n dX10_told_19 rfl ?_
    refine pv_sipush (v := 299) dX10_told_20 (by decide) ?_
    refine pv_icmp_gt (tgt := 40) dX10_told_23 (by decide) ?_ ?_
    · refine pv_bipush (v := (-2)) dX10_told_40 (by decide) ?_
      refine pv_goto (tgt := 77) dX10_told_42 (by decide) ?_
      exact pv_iret dX10_told_77 rfl rfl rfl
    · refine pv_iload_n dX10_told_26 rfl ?_
      refine pv_cs_ri (rest := []) dX10_told_27 my_X10_isFarm sl_X10_66 (k_X10_isFarm l SH x6 μ) rfl ⟨rfl, rfl, Nat.le_of_ble_eq_true rfl, Nat.le_of_ble_eq_true rfl⟩ ⟨Nat.zero_le _, Nat.zero_le _⟩ (Nat.le_of_ble_eq_true rfl) rfl (fun r8 => ?_)
      refine pv_if_eq (tgt := 40) dX10_told_30 (by decide) ?_ ?_
      · refine pv_bipush (v := (-2)) dX10_told_40 (by decide) ?_
        refine pv_goto (tgt := 77) dX10_told_42 (by decide) ?_
        exact pv_iret dX10_told_77 rfl rfl rfl
      · refine pv_iload_n dX10_told_33 rfl ?_
        refine pv_cs_ri (rest := []) dX10_told_34 my_X10_isFarm sl_X10_66 (k_X10_isFarm l SH x7 μ) rfl ⟨rfl, rfl, Nat.le_of_ble_eq_true rfl, Nat.le_of_ble_eq_true rfl⟩ ⟨Nat.zero_le _, Nat.zero_le _⟩ (Nat.le_of_ble_eq_true rfl) rfl (fun r9 => ?_)
        refine pv_if_ne (tgt := 45) dX10_told_37 (by decide) ?_ ?_
        · refine pv_iload_n dX10_told_45 rfl ?_
          refine pv_sipush (v := 200) dX10_told_46 (by decide) ?_
          refine pv_icmp_ge (tgt := 66) dX10_told_49 (by decide) ?_ ?_
          · refine pv_aload_n dX10_told_66 rfl ?_
            refine pv_getr dX10_told_67 fl_X10_16 sh_50 rfl ?_
            refine pv_bipush (v := 7) dX10_told_70 (by decide) ?_
            refine pv_iload_n dX10_told_72 rfl ?_
            refine pv_imul dX10_told_73 ?_
            refine pv_iload_n dX10_told_74 rfl ?_
            refine pv_iadd dX10_told_75 ?_
            refine pv_iald dX10_told_76 sh_53 ?_
            exact pv_iret dX10_told_77 rfl rfl rfl
          · refine pv_aload_n dX10_told_52 rfl ?_
            refine pv_getr dX10_told_53 fl_X10_7 sh_50 rfl ?_
            refine pv_bipush (v := 7) dX10_told_56 (by decide) ?_
            refine pv_iload_n dX10_told_58 rfl ?_
            refine pv_imul dX10_told_59 ?_
            refine pv_iload_n dX10_told_60 rfl ?_
            refine pv_iadd dX10_told_61 ?_
            refine pv_iald dX10_told_62 sh_51 ?_
            refine pv_goto (tgt := 77) dX10_told_63 (by decide) ?_
            exact pv_iret dX10_told_77 rfl rfl rfl
        · refine pv_bipush (v := (-2)) dX10_told_40 (by decide) ?_
          refine pv_goto (tgt := 77) dX10_told_42 (by decide) ?_
          exact pv_iret dX10_told_77 rfl rfl rfl
