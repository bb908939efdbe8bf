section
/-- a private method of a class that the tables say can be made, by its rows of tables_1 -/
def lw_okq (q : MethodName × Nat) : Prop := (q.1.cls ≠ "java/lang/invoke/MethodHandle" ∧ q.1.cls ≠ "java/lang/invoke/VarHandle") ∧ Cond.instantiable q.1.cls q.2 ∈ tables_1 ∧ Cond.privateMethod q.1 ∈ tables_1 ∧ Cond.instanceMethod q.1 ∈ tables_1
theorem lw_p0 : lw_okq (⟨"PaleMoor$Moor", "countStrengths", "(II)I"⟩, 5) := ⟨⟨by decide +kernel, by decide +kernel⟩, List.mem_of_getElem? (i := 31) (by decide +kernel), List.mem_of_getElem? (i := 229) (by decide +kernel), List.mem_of_getElem? (i := 230) (by decide +kernel)⟩
theorem lw_p1 : lw_okq (⟨"PaleMoor$Likings", "setRank", "(IIII)V"⟩, 2) := ⟨⟨by decide +kernel, by decide +kernel⟩, List.mem_of_getElem? (i := 58) (by decide +kernel), List.mem_of_getElem? (i := 281) (by decide +kernel), List.mem_of_getElem? (i := 282) (by decide +kernel)⟩
theorem lw_p2 : lw_okq (⟨"PaleMoor$Weeks", "begin", "()V"⟩, 6) := ⟨⟨by decide +kernel, by decide +kernel⟩, List.mem_of_getElem? (i := 128) (by decide +kernel), List.mem_of_getElem? (i := 329) (by decide +kernel), List.mem_of_getElem? (i := 330) (by decide +kernel)⟩
theorem lw_p3 : lw_okq (⟨"PaleMoor$Pad", "signAt", "(I)I"⟩, 2) := ⟨⟨by decide +kernel, by decide +kernel⟩, List.mem_of_getElem? (i := 115) (by decide +kernel), List.mem_of_getElem? (i := 345) (by decide +kernel), List.mem_of_getElem? (i := 346) (by decide +kernel)⟩
theorem lw_p4 : lw_okq (⟨"PaleMoor$Weeks", "runAct", "(LPaleMoor$Moor;III)V"⟩, 6) := ⟨⟨by decide +kernel, by decide +kernel⟩, List.mem_of_getElem? (i := 128) (by decide +kernel), List.mem_of_getElem? (i := 360) (by decide +kernel), List.mem_of_getElem? (i := 361) (by decide +kernel)⟩
theorem lw_p5 : lw_okq (⟨"PaleMoor$Moor", "whyNoWalk", "(II)I"⟩, 5) := ⟨⟨by decide +kernel, by decide +kernel⟩, List.mem_of_getElem? (i := 31) (by decide +kernel), List.mem_of_getElem? (i := 368) (by decide +kernel), List.mem_of_getElem? (i := 369) (by decide +kernel)⟩
theorem lw_p6 : lw_okq (⟨"PaleMoor$Moor", "whyNoMending", "(I)I"⟩, 5) := ⟨⟨by decide +kernel, by decide +kernel⟩, List.mem_of_getElem? (i := 31) (by decide +kernel), List.mem_of_getElem? (i := 374) (by decide +kernel), List.mem_of_getElem? (i := 375) (by decide +kernel)⟩
theorem lw_p7 : lw_okq (⟨"PaleMoor$Moor", "whyNoBreaking", "(II)I"⟩, 5) := ⟨⟨by decide +kernel, by decide +kernel⟩, List.mem_of_getElem? (i := 31) (by decide +kernel), List.mem_of_getElem? (i := 385) (by decide +kernel), List.mem_of_getElem? (i := 386) (by decide +kernel)⟩
theorem lw_p8 : lw_okq (⟨"PaleMoor$Moor", "gapMadeByWind", "(I)I"⟩, 5) := ⟨⟨by decide +kernel, by decide +kernel⟩, List.mem_of_getElem? (i := 31) (by decide +kernel), List.mem_of_getElem? (i := 402) (by decide +kernel), List.mem_of_getElem? (i := 403) (by decide +kernel)⟩
theorem lw_p9 : lw_okq (⟨"PaleMoor$Weeks", "noteGap", "(I)V"⟩, 6) := ⟨⟨by decide +kernel, by decide +kernel⟩, List.mem_of_getElem? (i := 128) (by decide +kernel), List.mem_of_getElem? (i := 406) (by decide +kernel), List.mem_of_getElem? (i := 407) (by decide +kernel)⟩
theorem lw_p10 : lw_okq (⟨"PaleMoor$Moor", "mendPale", "(II)V"⟩, 5) := ⟨⟨by decide +kernel, by decide +kernel⟩, List.mem_of_getElem? (i := 31) (by decide +kernel), List.mem_of_getElem? (i := 419) (by decide +kernel), List.mem_of_getElem? (i := 420) (by decide +kernel)⟩
theorem lw_p11 : lw_okq (⟨"PaleMoor$Moor", "blow", "(I)V"⟩, 5) := ⟨⟨by decide +kernel, by decide +kernel⟩, List.mem_of_getElem? (i := 31) (by decide +kernel), List.mem_of_getElem? (i := 424) (by decide +kernel), List.mem_of_getElem? (i := 425) (by decide +kernel)⟩
theorem lw_p12 : lw_okq (⟨"PaleMoor$Moor", "passDay", "()V"⟩, 5) := ⟨⟨by decide +kernel, by decide +kernel⟩, List.mem_of_getElem? (i := 31) (by decide +kernel), List.mem_of_getElem? (i := 428) (by decide +kernel), List.mem_of_getElem? (i := 429) (by decide +kernel)⟩
theorem lw_p13 : lw_okq (⟨"PaleMoor$Rounds", "shortenBy", "(I)V"⟩, 2) := ⟨⟨by decide +kernel, by decide +kernel⟩, List.mem_of_getElem? (i := 159) (by decide +kernel), List.mem_of_getElem? (i := 474) (by decide +kernel), List.mem_of_getElem? (i := 475) (by decide +kernel)⟩
theorem lw_p14 : lw_okq (⟨"PaleMoor$Rounds", "lengthen", "(III)V"⟩, 2) := ⟨⟨by decide +kernel, by decide +kernel⟩, List.mem_of_getElem? (i := 159) (by decide +kernel), List.mem_of_getElem? (i := 499) (by decide +kernel), List.mem_of_getElem? (i := 500) (by decide +kernel)⟩
theorem lw_p15 : lw_okq (⟨"PaleMoor$Rounds", "leastHome", "(II)I"⟩, 2) := ⟨⟨by decide +kernel, by decide +kernel⟩, List.mem_of_getElem? (i := 159) (by decide +kernel), List.mem_of_getElem? (i := 503) (by decide +kernel), List.mem_of_getElem? (i := 504) (by decide +kernel)⟩
def lw_privs_1 : List (MethodName × Nat) := [(⟨"PaleMoor$Moor", "countStrengths", "(II)I"⟩, 5), (⟨"PaleMoor$Likings", "setRank", "(IIII)V"⟩, 2), (⟨"PaleMoor$Weeks", "begin", "()V"⟩, 6), (⟨"PaleMoor$Pad", "signAt", "(I)I"⟩, 2), (⟨"PaleMoor$Weeks", "runAct", "(LPaleMoor$Moor;III)V"⟩, 6), (⟨"PaleMoor$Moor", "whyNoWalk", "(II)I"⟩, 5), (⟨"PaleMoor$Moor", "whyNoMending", "(I)I"⟩, 5), (⟨"PaleMoor$Moor", "whyNoBreaking", "(II)I"⟩, 5), (⟨"PaleMoor$Moor", "gapMadeByWind", "(I)I"⟩, 5), (⟨"PaleMoor$Weeks", "noteGap", "(I)V"⟩, 6), (⟨"PaleMoor$Moor", "mendPale", "(II)V"⟩, 5), (⟨"PaleMoor$Moor", "blow", "(I)V"⟩, 5), (⟨"PaleMoor$Moor", "passDay", "()V"⟩, 5), (⟨"PaleMoor$Rounds", "shortenBy", "(I)V"⟩, 2), (⟨"PaleMoor$Rounds", "lengthen", "(III)V"⟩, 2), (⟨"PaleMoor$Rounds", "leastHome", "(II)I"⟩, 2)]
theorem lw_r1 : ∀ q ∈ lw_privs_1, lw_okq q := List.forall_mem_cons.mpr ⟨lw_p0, List.forall_mem_cons.mpr ⟨lw_p1, List.forall_mem_cons.mpr ⟨lw_p2, List.forall_mem_cons.mpr ⟨lw_p3, List.forall_mem_cons.mpr ⟨lw_p4, List.forall_mem_cons.mpr ⟨lw_p5, List.forall_mem_cons.mpr ⟨lw_p6, List.forall_mem_cons.mpr ⟨lw_p7, List.forall_mem_cons.mpr ⟨lw_p8, List.forall_mem_cons.mpr ⟨lw_p9, List.forall_mem_cons.mpr ⟨lw_p10, List.forall_mem_cons.mpr ⟨lw_p11, List.forall_mem_cons.mpr ⟨lw_p12, List.forall_mem_cons.mpr ⟨lw_p13, List.forall_mem_cons.mpr ⟨lw_p14, List.forall_mem_cons.mpr ⟨lw_p15, fun _ h => absurd h List.not_mem_nil⟩⟩⟩⟩⟩⟩⟩⟩⟩⟩⟩⟩⟩⟩⟩⟩
theorem lw_p16 : lw_okq (⟨"PaleMoor$Likings", "isSteady", "(I)Z"⟩, 2) := ⟨⟨by decide +kernel, by decide +kernel⟩, List.mem_of_getElem? (i := 58) (by decide +kernel), List.mem_of_getElem? (i := 516) (by decide +kernel), List.mem_of_getElem? (i := 517) (by decide +kernel)⟩
theorem lw_p17 : lw_okq (⟨"PaleMoor$Likings", "prefers", "(IIII)Z"⟩, 2) := ⟨⟨by decide +kernel, by decide +kernel⟩, List.mem_of_getElem? (i := 58) (by decide +kernel), List.mem_of_getElem? (i := 526) (by decide +kernel), List.mem_of_getElem? (i := 527) (by decide +kernel)⟩
theorem lw_p18 : lw_okq (⟨"PaleMoor$Likings", "rankOf", "(III)I"⟩, 2) := ⟨⟨by decide +kernel, by decide +kernel⟩, List.mem_of_getElem? (i := 58) (by decide +kernel), List.mem_of_getElem? (i := 530) (by decide +kernel), List.mem_of_getElem? (i := 531) (by decide +kernel)⟩
theorem lw_p19 : lw_okq (⟨"PaleMoor$Likings", "sumOfRanks", "(II)I"⟩, 2) := ⟨⟨by decide +kernel, by decide +kernel⟩, List.mem_of_getElem? (i := 58) (by decide +kernel), List.mem_of_getElem? (i := 545) (by decide +kernel), List.mem_of_getElem? (i := 546) (by decide +kernel)⟩
theorem lw_p20 : lw_okq (⟨"PaleMoor$Sights", "tally", "(I)V"⟩, 4) := ⟨⟨by decide +kernel, by decide +kernel⟩, List.mem_of_getElem? (i := 71) (by decide +kernel), List.mem_of_getElem? (i := 585) (by decide +kernel), List.mem_of_getElem? (i := 586) (by decide +kernel)⟩
theorem lw_p21 : lw_okq (⟨"PaleMoor", "toldOfAll", "(I)I"⟩, 8) := ⟨⟨by decide +kernel, by decide +kernel⟩, List.mem_of_getElem? (i := 17) (by decide +kernel), List.mem_of_getElem? (i := 672) (by decide +kernel), List.mem_of_getElem? (i := 673) (by decide +kernel)⟩
theorem lw_p22 : lw_okq (⟨"PaleMoor", "toldOfFarm", "(II)I"⟩, 8) := ⟨⟨by decide +kernel, by decide +kernel⟩, List.mem_of_getElem? (i := 17) (by decide +kernel), List.mem_of_getElem? (i := 676) (by decide +kernel), List.mem_of_getElem? (i := 677) (by decide +kernel)⟩
theorem lw_p23 : lw_okq (⟨"PaleMoor", "toldOfOne", "(II)I"⟩, 8) := ⟨⟨by decide +kernel, by decide +kernel⟩, List.mem_of_getElem? (i := 17) (by decide +kernel), List.mem_of_getElem? (i := 680) (by decide +kernel), List.mem_of_getElem? (i := 681) (by decide +kernel)⟩
theorem lw_p24 : lw_okq (⟨"PaleMoor", "toldOfPair", "(III)I"⟩, 8) := ⟨⟨by decide +kernel, by decide +kernel⟩, List.mem_of_getElem? (i := 17) (by decide +kernel), List.mem_of_getElem? (i := 684) (by decide +kernel), List.mem_of_getElem? (i := 685) (by decide +kernel)⟩
theorem lw_p25 : lw_okq (⟨"PaleMoorModel", "asNow", "()V"⟩, 24) := ⟨⟨by decide +kernel, by decide +kernel⟩, List.mem_of_getElem? (i := 688) (by decide +kernel), List.mem_of_getElem? (i := 778) (by decide +kernel), List.mem_of_getElem? (i := 779) (by decide +kernel)⟩
theorem lw_p26 : lw_okq (⟨"PaleMoorModel", "palesOf", "(I)I"⟩, 24) := ⟨⟨by decide +kernel, by decide +kernel⟩, List.mem_of_getElem? (i := 688) (by decide +kernel), List.mem_of_getElem? (i := 782) (by decide +kernel), List.mem_of_getElem? (i := 783) (by decide +kernel)⟩
theorem lw_p27 : lw_okq (⟨"PaleMoorModel", "rowOf", "(II)I"⟩, 24) := ⟨⟨by decide +kernel, by decide +kernel⟩, List.mem_of_getElem? (i := 688) (by decide +kernel), List.mem_of_getElem? (i := 798) (by decide +kernel), List.mem_of_getElem? (i := 799) (by decide +kernel)⟩
theorem lw_p28 : lw_okq (⟨"PaleMoorModel", "faultOf", "()I"⟩, 24) := ⟨⟨by decide +kernel, by decide +kernel⟩, List.mem_of_getElem? (i := 688) (by decide +kernel), List.mem_of_getElem? (i := 814) (by decide +kernel), List.mem_of_getElem? (i := 815) (by decide +kernel)⟩
theorem lw_p29 : lw_okq (⟨"PaleMoorModel", "goWeeks", "()I"⟩, 24) := ⟨⟨by decide +kernel, by decide +kernel⟩, List.mem_of_getElem? (i := 688) (by decide +kernel), List.mem_of_getElem? (i := 825) (by decide +kernel), List.mem_of_getElem? (i := 826) (by decide +kernel)⟩
theorem lw_p30 : lw_okq (⟨"PaleMoorModel", "endDay", "()I"⟩, 24) := ⟨⟨by decide +kernel, by decide +kernel⟩, List.mem_of_getElem? (i := 688) (by decide +kernel), List.mem_of_getElem? (i := 829) (by decide +kernel), List.mem_of_getElem? (i := 830) (by decide +kernel)⟩
theorem lw_p31 : lw_okq (⟨"PaleMoorModel", "oneAct", "(I)I"⟩, 24) := ⟨⟨by decide +kernel, by decide +kernel⟩, List.mem_of_getElem? (i := 688) (by decide +kernel), List.mem_of_getElem? (i := 833) (by decide +kernel), List.mem_of_getElem? (i := 834) (by decide +kernel)⟩
def lw_privs_2 : List (MethodName × Nat) := [(⟨"PaleMoor$Likings", "isSteady", "(I)Z"⟩, 2), (⟨"PaleMoor$Likings", "prefers", "(IIII)Z"⟩, 2), (⟨"PaleMoor$Likings", "rankOf", "(III)I"⟩, 2), (⟨"PaleMoor$Likings", "sumOfRanks", "(II)I"⟩, 2), (⟨"PaleMoor$Sights", "tally", "(I)V"⟩, 4), (⟨"PaleMoor", "toldOfAll", "(I)I"⟩, 8), (⟨"PaleMoor", "toldOfFarm", "(II)I"⟩, 8), (⟨"PaleMoor", "toldOfOne", "(II)I"⟩, 8), (⟨"PaleMoor", "toldOfPair", "(III)I"⟩, 8), (⟨"PaleMoorModel", "asNow", "()V"⟩, 24), (⟨"PaleMoorModel", "palesOf", "(I)I"⟩, 24), (⟨"PaleMoorModel", "rowOf", "(II)I"⟩, 24), (⟨"PaleMoorModel", "faultOf", "()I"⟩, 24), (⟨"PaleMoorModel", "goWeeks", "()I"⟩, 24), (⟨"PaleMoorModel", "endDay", "()I"⟩, 24), (⟨"PaleMoorModel", "oneAct", "(I)I"⟩, 24)]
theorem lw_r2 : ∀ q ∈ lw_privs_2, lw_okq q := List.forall_mem_cons.mpr ⟨lw_p16, List.forall_mem_cons.mpr ⟨lw_p17, List.forall_mem_cons.mpr ⟨lw_p18, List.forall_mem_cons.mpr ⟨lw_p19, List.forall_mem_cons.mpr ⟨lw_p20, List.forall_mem_cons.mpr ⟨lw_p21, List.forall_mem_cons.mpr ⟨lw_p22, List.forall_mem_cons.mpr ⟨lw_p23, List.forall_mem_cons.mpr ⟨lw_p24, List.forall_mem_cons.mpr ⟨lw_p25, List.forall_mem_cons.mpr ⟨lw_p26, List.forall_mem_cons.mpr ⟨lw_p27, List.forall_mem_cons.mpr ⟨lw_p28, List.forall_mem_cons.mpr ⟨lw_p29, List.forall_mem_cons.mpr ⟨lw_p30, List.forall_mem_cons.mpr ⟨lw_p31, fun _ h => absurd h List.not_mem_nil⟩⟩⟩⟩⟩⟩⟩⟩⟩⟩⟩⟩⟩⟩⟩⟩
theorem lw_p32 : lw_okq (⟨"PaleMoorModel", "blow", "(I)I"⟩, 24) := ⟨⟨by decide +kernel, by decide +kernel⟩, List.mem_of_getElem? (i := 688) (by decide +kernel), List.mem_of_getElem? (i := 837) (by decide +kernel), List.mem_of_getElem? (i := 838) (by decide +kernel)⟩
theorem lw_p33 : lw_okq (⟨"PaleMoorModel", "mend", "(I)I"⟩, 24) := ⟨⟨by decide +kernel, by decide +kernel⟩, List.mem_of_getElem? (i := 688) (by decide +kernel), List.mem_of_getElem? (i := 841) (by decide +kernel), List.mem_of_getElem? (i := 842) (by decide +kernel)⟩
theorem lw_p34 : lw_okq (⟨"PaleMoorModel", "lay", "(III)V"⟩, 24) := ⟨⟨by decide +kernel, by decide +kernel⟩, List.mem_of_getElem? (i := 688) (by decide +kernel), List.mem_of_getElem? (i := 845) (by decide +kernel), List.mem_of_getElem? (i := 846) (by decide +kernel)⟩
theorem lw_p35 : lw_okq (⟨"PaleMoorModel", "split", "(II)I"⟩, 24) := ⟨⟨by decide +kernel, by decide +kernel⟩, List.mem_of_getElem? (i := 688) (by decide +kernel), List.mem_of_getElem? (i := 849) (by decide +kernel), List.mem_of_getElem? (i := 850) (by decide +kernel)⟩
theorem lw_p36 : lw_okq (⟨"PaleMoorModel", "go", "(II)I"⟩, 24) := ⟨⟨by decide +kernel, by decide +kernel⟩, List.mem_of_getElem? (i := 688) (by decide +kernel), List.mem_of_getElem? (i := 853) (by decide +kernel), List.mem_of_getElem? (i := 854) (by decide +kernel)⟩
theorem lw_p37 : lw_okq (⟨"PaleMoorModel", "barOfWeeks", "()I"⟩, 24) := ⟨⟨by decide +kernel, by decide +kernel⟩, List.mem_of_getElem? (i := 688) (by decide +kernel), List.mem_of_getElem? (i := 861) (by decide +kernel), List.mem_of_getElem? (i := 862) (by decide +kernel)⟩
theorem lw_p38 : lw_okq (⟨"PaleMoorModel", "away", "()I"⟩, 24) := ⟨⟨by decide +kernel, by decide +kernel⟩, List.mem_of_getElem? (i := 688) (by decide +kernel), List.mem_of_getElem? (i := 877) (by decide +kernel), List.mem_of_getElem? (i := 878) (by decide +kernel)⟩
theorem lw_p39 : lw_okq (⟨"PaleMoorModel", "layApart", "()V"⟩, 24) := ⟨⟨by decide +kernel, by decide +kernel⟩, List.mem_of_getElem? (i := 688) (by decide +kernel), List.mem_of_getElem? (i := 885) (by decide +kernel), List.mem_of_getElem? (i := 886) (by decide +kernel)⟩
theorem lw_p40 : lw_okq (⟨"PaleMoorModel", "laySteady", "(I)I"⟩, 24) := ⟨⟨by decide +kernel, by decide +kernel⟩, List.mem_of_getElem? (i := 688) (by decide +kernel), List.mem_of_getElem? (i := 901) (by decide +kernel), List.mem_of_getElem? (i := 902) (by decide +kernel)⟩
theorem lw_p41 : lw_okq (⟨"PaleMoorModel", "placeOf", "(III)I"⟩, 24) := ⟨⟨by decide +kernel, by decide +kernel⟩, List.mem_of_getElem? (i := 688) (by decide +kernel), List.mem_of_getElem? (i := 905) (by decide +kernel), List.mem_of_getElem? (i := 906) (by decide +kernel)⟩
theorem lw_p42 : lw_okq (⟨"PaleMoorModel", "isSteady", "()Z"⟩, 24) := ⟨⟨by decide +kernel, by decide +kernel⟩, List.mem_of_getElem? (i := 688) (by decide +kernel), List.mem_of_getElem? (i := 909) (by decide +kernel), List.mem_of_getElem? (i := 910) (by decide +kernel)⟩
theorem lw_p43 : lw_okq (⟨"PaleMoorModel", "isFit", "(I)Z"⟩, 24) := ⟨⟨by decide +kernel, by decide +kernel⟩, List.mem_of_getElem? (i := 688) (by decide +kernel), List.mem_of_getElem? (i := 929) (by decide +kernel), List.mem_of_getElem? (i := 930) (by decide +kernel)⟩
theorem lw_p44 : lw_okq (⟨"PaleMoorModel", "layWorth", "(I)V"⟩, 24) := ⟨⟨by decide +kernel, by decide +kernel⟩, List.mem_of_getElem? (i := 688) (by decide +kernel), List.mem_of_getElem? (i := 944) (by decide +kernel), List.mem_of_getElem? (i := 945) (by decide +kernel)⟩
def lw_privs_3 : List (MethodName × Nat) := [(⟨"PaleMoorModel", "blow", "(I)I"⟩, 24), (⟨"PaleMoorModel", "mend", "(I)I"⟩, 24), (⟨"PaleMoorModel", "lay", "(III)V"⟩, 24), (⟨"PaleMoorModel", "split", "(II)I"⟩, 24), (⟨"PaleMoorModel", "go", "(II)I"⟩, 24), (⟨"PaleMoorModel", "barOfWeeks", "()I"⟩, 24), (⟨"PaleMoorModel", "away", "()I"⟩, 24), (⟨"PaleMoorModel", "layApart", "()V"⟩, 24), (⟨"PaleMoorModel", "laySteady", "(I)I"⟩, 24), (⟨"PaleMoorModel", "placeOf", "(III)I"⟩, 24), (⟨"PaleMoorModel", "isSteady", "()Z"⟩, 24), (⟨"PaleMoorModel", "isFit", "(I)Z"⟩, 24), (⟨"PaleMoorModel", "layWorth", "(I)V"⟩, 24)]
theorem lw_r3 : ∀ q ∈ lw_privs_3, lw_okq q := List.forall_mem_cons.mpr ⟨lw_p32, List.forall_mem_cons.mpr ⟨lw_p33, List.forall_mem_cons.mpr ⟨lw_p34, List.forall_mem_cons.mpr ⟨lw_p35, List.forall_mem_cons.mpr ⟨lw_p36, List.forall_mem_cons.mpr ⟨lw_p37, List.forall_mem_cons.mpr ⟨lw_p38, List.forall_mem_cons.mpr ⟨lw_p39, List.forall_mem_cons.mpr ⟨lw_p40, List.forall_mem_cons.mpr ⟨lw_p41, List.forall_mem_cons.mpr ⟨lw_p42, List.forall_mem_cons.mpr ⟨lw_p43, List.forall_mem_cons.mpr ⟨lw_p44, fun _ h => absurd h List.not_mem_nil⟩⟩⟩⟩⟩⟩⟩⟩⟩⟩⟩⟩⟩
def lw_privs : List (MethodName × Nat) := lw_privs_1 ++ (lw_privs_2 ++ (lw_privs_3))
def lw_tbl : List Cond := k2_sels lw_privs ++ tables_1
theorem lw_privs_ok : ∀ q ∈ lw_privs, lw_okq q := by
  show ∀ q ∈ lw_privs_1 ++ (lw_privs_2 ++ (lw_privs_3)), lw_okq q
  exact List.forall_mem_append.mpr ⟨lw_r1, List.forall_mem_append.mpr ⟨lw_r2, lw_r3⟩⟩
end
section
def RX0 : String := "PaleMoor$Gusts"
def TX0 : u_T := fun k => match k with
  | _ => ("", "", "", false)
def tyX0 : Nat → FieldType := fun k => match k with
  | _ => .int
abbrev wsX00 : List Cond := u_ws RX0 TX0 0
theorem nmX0 : ∀ a, a < 0 → ∀ b, b < 0 → a ≠ b → (TX0 a).2.1 ≠ (TX0 b).2.1 := by decide +kernel
theorem tyX0_ok : ∀ k, k < 0 → parseFieldDescriptor (TX0 k).2.2.1 = some (tyX0 k) := by decide +kernel
abbrev cX0_power : ByteArray := prog_2_method_2_code
def yX0_power : MethodName := ⟨RX0, "power", "(II)J"⟩
abbrev cX0_waysOfJust : ByteArray := prog_2_method_3_code
def yX0_waysOfJust : MethodName := ⟨RX0, "waysOfJust", "(II)J"⟩
abbrev cX0_sumOfStrongest : ByteArray := prog_2_method_4_code
def yX0_sumOfStrongest : MethodName := ⟨RX0, "sumOfStrongest", "(II)J"⟩
abbrev cX0_partInLowestTerms : ByteArray := prog_2_method_5_code
def yX0_partInLowestTerms : MethodName := ⟨RX0, "partInLowestTerms", "(JJI)J"⟩
abbrev cX0_greatestCommon : ByteArray := prog_2_method_6_code
def yX0_greatestCommon : MethodName := ⟨RX0, "greatestCommon", "(JJ)J"⟩
def RX1 : String := "PaleMoor$Likings"
def TX1 : u_T := fun k => match k with
  | 0 => ("PaleMoor$Likings", "rows", "[I", true)
  | _ => ("PaleMoor$Likings", "ranks", "[I", true)
def tyX1 : Nat → FieldType := fun k => match k with
  | 0 => .array .int
  | _ => .array .int
abbrev wsX10 : List Cond := u_ws RX1 TX1 2
theorem nmX1 : ∀ a, a < 2 → ∀ b, b < 2 → a ≠ b → (TX1 a).2.1 ≠ (TX1 b).2.1 := by decide +kernel
theorem tyX1_ok : ∀ k, k < 2 → parseFieldDescriptor (TX1 k).2.2.1 = some (tyX1 k) := by decide +kernel
abbrev cX1_init : ByteArray := prog_3_method_1_code
def yX1_init : MethodName := ⟨RX1, "<init>", "()V"⟩
abbrev cX1_copyFrom : ByteArray := prog_3_method_2_code
def yX1_copyFrom : MethodName := ⟨RX1, "copyFrom", "(LPaleMoor$Likings;)V"⟩
abbrev cX1_isRow : ByteArray := prog_3_method_3_code
def yX1_isRow : MethodName := ⟨RX1, "isRow", "(I)Z"⟩
abbrev cX1_rowOf : ByteArray := prog_3_method_4_code
def yX1_rowOf : MethodName := ⟨RX1, "rowOf", "(II)I"⟩
abbrev cX1_setRow : ByteArray := prog_3_method_5_code
def yX1_setRow : MethodName := ⟨RX1, "setRow", "(III)V"⟩
abbrev cX1_setRank : ByteArray := prog_3_method_6_code
def yX1_setRank : MethodName := ⟨RX1, "setRank", "(IIII)V"⟩
abbrev cX1_rankOf : ByteArray := prog_3_method_7_code
def yX1_rankOf : MethodName := ⟨RX1, "rankOf", "(III)I"⟩
abbrev cX1_partnerIn : ByteArray := prog_3_method_8_code
def yX1_partnerIn : MethodName := ⟨RX1, "partnerIn", "(III)I"⟩
abbrev cX1_chosenBy : ByteArray := prog_3_method_9_code
def yX1_chosenBy : MethodName := ⟨RX1, "chosenBy", "(II)I"⟩
abbrev cX1_countSteady : ByteArray := prog_3_method_10_code
def yX1_countSteady : MethodName := ⟨RX1, "countSteady", "()I"⟩
abbrev cX1_bestSteady : ByteArray := prog_3_method_11_code
def yX1_bestSteady : MethodName := ⟨RX1, "bestSteady", "(I)I"⟩
abbrev cX1_sumOfRanks : ByteArray := prog_3_method_12_code
def yX1_sumOfRanks : MethodName := ⟨RX1, "sumOfRanks", "(II)I"⟩
abbrev cX1_isSteady : ByteArray := prog_3_method_13_code
def yX1_isSteady : MethodName := ⟨RX1, "isSteady", "(I)Z"⟩
abbrev cX1_hasEachOnce : ByteArray := prog_3_method_14_code
def yX1_hasEachOnce : MethodName := ⟨RX1, "hasEachOnce", "(I)Z"⟩
abbrev cX1_prefers : ByteArray := prog_3_method_15_code
def yX1_prefers : MethodName := ⟨RX1, "prefers", "(IIII)Z"⟩
def RX2 : String := "PaleMoor$Moor"
def TX2 : u_T := fun k => match k with
  | 0 => ("PaleMoor$Moor", "strengths", "[I", true)
  | 1 => ("PaleMoor$Moor", "roads", "[I", true)
  | 2 => ("PaleMoor$Moor", "places", "[I", true)
  | 3 => ("PaleMoor$Moor", "herds", "[I", true)
  | _ => ("PaleMoor$Moor", "day", "I", false)
def tyX2 : Nat → FieldType := fun k => match k with
  | 0 => .array .int
  | 1 => .array .int
  | 2 => .array .int
  | 3 => .array .int
  | _ => .int
abbrev wsX20 : List Cond := u_ws RX2 TX2 5
theorem nmX2 : ∀ a, a < 5 → ∀ b, b < 5 → a ≠ b → (TX2 a).2.1 ≠ (TX2 b).2.1 := by decide +kernel
theorem tyX2_ok : ∀ k, k < 5 → parseFieldDescriptor (TX2 k).2.2.1 = some (tyX2 k) := by decide +kernel
abbrev cX2_init : ByteArray := prog_4_method_1_code
def yX2_init : MethodName := ⟨RX2, "<init>", "()V"⟩
abbrev cX2_copyFrom : ByteArray := prog_4_method_2_code
def yX2_copyFrom : MethodName := ⟨RX2, "copyFrom", "(LPaleMoor$Moor;)V"⟩
abbrev cX2_strengthBetween : ByteArray := prog_4_method_3_code
def yX2_strengthBetween : MethodName := ⟨RX2, "strengthBetween", "(II)I"⟩
abbrev cX2_setStrength : ByteArray := prog_4_method_4_code
def yX2_setStrength : MethodName := ⟨RX2, "setStrength", "(III)V"⟩
abbrev cX2_milesBetween : ByteArray := prog_4_method_5_code
def yX2_milesBetween : MethodName := ⟨RX2, "milesBetween", "(II)I"⟩
abbrev cX2_setMiles : ByteArray := prog_4_method_6_code
def yX2_setMiles : MethodName := ⟨RX2, "setMiles", "(III)V"⟩
abbrev cX2_placeOf : ByteArray := prog_4_method_7_code
def yX2_placeOf : MethodName := ⟨RX2, "placeOf", "(I)I"⟩
abbrev cX2_cowsOf : ByteArray := prog_4_method_8_code
def yX2_cowsOf : MethodName := ⟨RX2, "cowsOf", "(I)I"⟩
abbrev cX2_settle : ByteArray := prog_4_method_9_code
def yX2_settle : MethodName := ⟨RX2, "settle", "(III)V"⟩
abbrev cX2_countPales : ByteArray := prog_4_method_10_code
def yX2_countPales : MethodName := ⟨RX2, "countPales", "()I"⟩
abbrev cX2_countGaps : ByteArray := prog_4_method_11_code
def yX2_countGaps : MethodName := ⟨RX2, "countGaps", "()I"⟩
abbrev cX2_countStrengths : ByteArray := prog_4_method_12_code
def yX2_countStrengths : MethodName := ⟨RX2, "countStrengths", "(II)I"⟩
abbrev cX2_awayBits : ByteArray := prog_4_method_13_code
def yX2_awayBits : MethodName := ⟨RX2, "awayBits", "()I"⟩
abbrev cX2_toBeMended : ByteArray := prog_4_method_14_code
def yX2_toBeMended : MethodName := ⟨RX2, "toBeMended", "(I)I"⟩
abbrev cX2_whyNot : ByteArray := prog_4_method_15_code
def yX2_whyNot : MethodName := ⟨RX2, "whyNot", "(III)I"⟩
abbrev cX2_whyNoWalk : ByteArray := prog_4_method_16_code
def yX2_whyNoWalk : MethodName := ⟨RX2, "whyNoWalk", "(II)I"⟩
abbrev cX2_whyNoMending : ByteArray := prog_4_method_17_code
def yX2_whyNoMending : MethodName := ⟨RX2, "whyNoMending", "(I)I"⟩
abbrev cX2_whyNoBreaking : ByteArray := prog_4_method_18_code
def yX2_whyNoBreaking : MethodName := ⟨RX2, "whyNoBreaking", "(II)I"⟩
abbrev cX2_whyNotFrom : ByteArray := prog_4_method_19_code
def yX2_whyNotFrom : MethodName := ⟨RX2, "whyNotFrom", "(II)I"⟩
abbrev cX2_perform : ByteArray := prog_4_method_20_code
def yX2_perform : MethodName := ⟨RX2, "perform", "(III)V"⟩
abbrev cX2_mendPale : ByteArray := prog_4_method_21_code
def yX2_mendPale : MethodName := ⟨RX2, "mendPale", "(II)V"⟩
abbrev cX2_blow : ByteArray := prog_4_method_22_code
def yX2_blow : MethodName := ⟨RX2, "blow", "(I)V"⟩
abbrev cX2_passDay : ByteArray := prog_4_method_23_code
def yX2_passDay : MethodName := ⟨RX2, "passDay", "()V"⟩
abbrev cX2_gapMadeBy : ByteArray := prog_4_method_24_code
def yX2_gapMadeBy : MethodName := ⟨RX2, "gapMadeBy", "(III)I"⟩
abbrev cX2_gapMadeByWind : ByteArray := prog_4_method_25_code
def yX2_gapMadeByWind : MethodName := ⟨RX2, "gapMadeByWind", "(I)I"⟩
abbrev cX2_drawActs : ByteArray := prog_4_method_26_code
def yX2_drawActs : MethodName := ⟨RX2, "drawActs", "(II)V"⟩
abbrev cX2_drawnKind : ByteArray := prog_4_method_27_code
def yX2_drawnKind : MethodName := ⟨RX2, "drawnKind", "(I)I"⟩
def RX3 : String := "PaleMoor$Pad"
def TX3 : u_T := fun k => match k with
  | 0 => ("PaleMoor$Pad", "signs", "[I", true)
  | _ => ("PaleMoor$Pad", "count", "I", false)
def tyX3 : Nat → FieldType := fun k => match k with
  | 0 => .array .int
  | _ => .int
abbrev wsX30 : List Cond := u_ws RX3 TX3 2
theorem nmX3 : ∀ a, a < 2 → ∀ b, b < 2 → a ≠ b → (TX3 a).2.1 ≠ (TX3 b).2.1 := by decide +kernel
theorem tyX3_ok : ∀ k, k < 2 → parseFieldDescriptor (TX3 k).2.2.1 = some (tyX3 k) := by decide +kernel
abbrev cX3_init : ByteArray := prog_5_method_1_code
def yX3_init : MethodName := ⟨RX3, "<init>", "()V"⟩
abbrev cX3_size : ByteArray := prog_5_method_2_code
def yX3_size : MethodName := ⟨RX3, "size", "()I"⟩
abbrev cX3_clear : ByteArray := prog_5_method_3_code
def yX3_clear : MethodName := ⟨RX3, "clear", "()V"⟩
abbrev cX3_add : ByteArray := prog_5_method_4_code
def yX3_add : MethodName := ⟨RX3, "add", "(I)Z"⟩
abbrev cX3_faultPlace : ByteArray := prog_5_method_5_code
def yX3_faultPlace : MethodName := ⟨RX3, "faultPlace", "()I"⟩
abbrev cX3_nextAfter : ByteArray := prog_5_method_6_code
def yX3_nextAfter : MethodName := ⟨RX3, "nextAfter", "(II)I"⟩
abbrev cX3_nextAfterStart : ByteArray := prog_5_method_7_code
def yX3_nextAfterStart : MethodName := ⟨RX3, "nextAfterStart", "(I)I"⟩
abbrev cX3_signAt : ByteArray := prog_5_method_8_code
def yX3_signAt : MethodName := ⟨RX3, "signAt", "(I)I"⟩
abbrev cX3_kindAt : ByteArray := prog_5_method_9_code
def yX3_kindAt : MethodName := ⟨RX3, "kindAt", "(I)I"⟩
abbrev cX3_deedKind : ByteArray := prog_5_method_10_code
def yX3_deedKind : MethodName := ⟨RX3, "deedKind", "(I)I"⟩
abbrev cX3_manAt : ByteArray := prog_5_method_11_code
def yX3_manAt : MethodName := ⟨RX3, "manAt", "(I)I"⟩
abbrev cX3_numberAt : ByteArray := prog_5_method_12_code
def yX3_numberAt : MethodName := ⟨RX3, "numberAt", "(II)I"⟩
abbrev cX3_lengthOf : ByteArray := prog_5_method_13_code
def yX3_lengthOf : MethodName := ⟨RX3, "lengthOf", "(I)I"⟩
def RX4 : String := "PaleMoor$Rails"
def TX4 : u_T := fun k => match k with
  | _ => ("PaleMoor$Rails", "worths", "[I", true)
def tyX4 : Nat → FieldType := fun k => match k with
  | _ => .array .int
abbrev wsX40 : List Cond := u_ws RX4 TX4 1
theorem nmX4 : ∀ a, a < 1 → ∀ b, b < 1 → a ≠ b → (TX4 a).2.1 ≠ (TX4 b).2.1 := by decide +kernel
theorem tyX4_ok : ∀ k, k < 1 → parseFieldDescriptor (TX4 k).2.2.1 = some (tyX4 k) := by decide +kernel
abbrev cX4_init : ByteArray := prog_6_method_1_code
def yX4_init : MethodName := ⟨RX4, "<init>", "()V"⟩
abbrev cX4_leastMissing : ByteArray := prog_6_method_2_code
def yX4_leastMissing : MethodName := ⟨RX4, "leastMissing", "(I)I"⟩
abbrev cX4_winningLess : ByteArray := prog_6_method_3_code
def yX4_winningLess : MethodName := ⟨RX4, "winningLess", "(I)I"⟩
def RX5 : String := "PaleMoor$Rounds"
def TX5 : u_T := fun k => match k with
  | 0 => ("PaleMoor$Rounds", "least", "[I", true)
  | _ => ("PaleMoor$Rounds", "tours", "[I", true)
def tyX5 : Nat → FieldType := fun k => match k with
  | 0 => .array .int
  | _ => .array .int
abbrev wsX50 : List Cond := u_ws RX5 TX5 2
theorem nmX5 : ∀ a, a < 2 → ∀ b, b < 2 → a ≠ b → (TX5 a).2.1 ≠ (TX5 b).2.1 := by decide +kernel
theorem tyX5_ok : ∀ k, k < 2 → parseFieldDescriptor (TX5 k).2.2.1 = some (tyX5 k) := by decide +kernel
abbrev cX5_init : ByteArray := prog_7_method_1_code
def yX5_init : MethodName := ⟨RX5, "<init>", "()V"⟩
abbrev cX5_measure : ByteArray := prog_7_method_2_code
def yX5_measure : MethodName := ⟨RX5, "measure", "(LPaleMoor$Moor;)V"⟩
abbrev cX5_shortenBy : ByteArray := prog_7_method_3_code
def yX5_shortenBy : MethodName := ⟨RX5, "shortenBy", "(I)V"⟩
abbrev cX5_between : ByteArray := prog_7_method_4_code
def yX5_between : MethodName := ⟨RX5, "between", "(II)I"⟩
abbrev cX5_milesOrNone : ByteArray := prog_7_method_5_code
def yX5_milesOrNone : MethodName := ⟨RX5, "milesOrNone", "(I)I"⟩
abbrev cX5_tour : ByteArray := prog_7_method_6_code
def yX5_tour : MethodName := ⟨RX5, "tour", "(II)I"⟩
abbrev cX5_lengthen : ByteArray := prog_7_method_7_code
def yX5_lengthen : MethodName := ⟨RX5, "lengthen", "(III)V"⟩
abbrev cX5_leastHome : ByteArray := prog_7_method_8_code
def yX5_leastHome : MethodName := ⟨RX5, "leastHome", "(II)I"⟩
def RX6 : String := "PaleMoor$Sights"
def TX6 : u_T := fun k => match k with
  | 0 => ("PaleMoor$Sights", "cases", "[I", true)
  | 1 => ("PaleMoor$Sights", "steps", "[I", true)
  | 2 => ("PaleMoor$Sights", "fitting", "I", false)
  | _ => ("PaleMoor$Sights", "count", "I", false)
def tyX6 : Nat → FieldType := fun k => match k with
  | 0 => .array .int
  | 1 => .array .int
  | 2 => .int
  | _ => .int
abbrev wsX60 : List Cond := u_ws RX6 TX6 4
theorem nmX6 : ∀ a, a < 4 → ∀ b, b < 4 → a ≠ b → (TX6 a).2.1 ≠ (TX6 b).2.1 := by decide +kernel
theorem tyX6_ok : ∀ k, k < 4 → parseFieldDescriptor (TX6 k).2.2.1 = some (tyX6 k) := by decide +kernel
abbrev cX6_init : ByteArray := prog_8_method_1_code
def yX6_init : MethodName := ⟨RX6, "<init>", "()V"⟩
abbrev cX6_copyFrom : ByteArray := prog_8_method_2_code
def yX6_copyFrom : MethodName := ⟨RX6, "copyFrom", "(LPaleMoor$Sights;)V"⟩
abbrev cX6_clear : ByteArray := prog_8_method_3_code
def yX6_clear : MethodName := ⟨RX6, "clear", "()V"⟩
abbrev cX6_add : ByteArray := prog_8_method_4_code
def yX6_add : MethodName := ⟨RX6, "add", "(IIZ)Z"⟩
abbrev cX6_isDown : ByteArray := prog_8_method_5_code
def yX6_isDown : MethodName := ⟨RX6, "isDown", "(III)Z"⟩
abbrev cX6_lastDown : ByteArray := prog_8_method_6_code
def yX6_lastDown : MethodName := ⟨RX6, "lastDown", "(II)I"⟩
abbrev cX6_caseAt : ByteArray := prog_8_method_7_code
def yX6_caseAt : MethodName := ⟨RX6, "caseAt", "(I)I"⟩
abbrev cX6_bestQuestion : ByteArray := prog_8_method_8_code
def yX6_bestQuestion : MethodName := ⟨RX6, "bestQuestion", "()I"⟩
abbrev cX6_tally : ByteArray := prog_8_method_9_code
def yX6_tally : MethodName := ⟨RX6, "tally", "(I)V"⟩
abbrev cX6_leftAtMost : ByteArray := prog_8_method_10_code
def yX6_leftAtMost : MethodName := ⟨RX6, "leftAtMost", "(I)I"⟩
def RX7 : String := "PaleMoor$Weeks"
def TX7 : u_T := fun k => match k with
  | 0 => ("PaleMoor$Weeks", "acts", "I", false)
  | 1 => ("PaleMoor$Weeks", "failed", "I", false)
  | 2 => ("PaleMoor$Weeks", "reason", "I", false)
  | 3 => ("PaleMoor$Weeks", "gone", "I", false)
  | 4 => ("PaleMoor$Weeks", "gapAct", "I", false)
  | _ => ("PaleMoor$Weeks", "gap", "I", false)
def tyX7 : Nat → FieldType := fun k => match k with
  | 0 => .int
  | 1 => .int
  | 2 => .int
  | 3 => .int
  | 4 => .int
  | _ => .int
abbrev wsX70 : List Cond := u_ws RX7 TX7 6
theorem nmX7 : ∀ a, a < 6 → ∀ b, b < 6 → a ≠ b → (TX7 a).2.1 ≠ (TX7 b).2.1 := by decide +kernel
theorem tyX7_ok : ∀ k, k < 6 → parseFieldDescriptor (TX7 k).2.2.1 = some (tyX7 k) := by decide +kernel
abbrev cX7_init : ByteArray := prog_9_method_1_code
def yX7_init : MethodName := ⟨RX7, "<init>", "()V"⟩
abbrev cX7_canBe : ByteArray := prog_9_method_2_code
def yX7_canBe : MethodName := ⟨RX7, "canBe", "(LPaleMoor$Pad;LPaleMoor$Moor;LPaleMoor$Moor;)Z"⟩
abbrev cX7_begin : ByteArray := prog_9_method_3_code
def yX7_begin : MethodName := ⟨RX7, "begin", "()V"⟩
abbrev cX7_runAct : ByteArray := prog_9_method_4_code
def yX7_runAct : MethodName := ⟨RX7, "runAct", "(LPaleMoor$Moor;III)V"⟩
abbrev cX7_noteGap : ByteArray := prog_9_method_5_code
def yX7_noteGap : MethodName := ⟨RX7, "noteGap", "(I)V"⟩
def RX8 : String := "PaleMoor$Whole"
def TX8 : u_T := fun k => match k with
  | 0 => ("PaleMoor$Whole", "moor", "LPaleMoor$Moor;", true)
  | 1 => ("PaleMoor$Whole", "likings", "LPaleMoor$Likings;", true)
  | 2 => ("PaleMoor$Whole", "sights", "LPaleMoor$Sights;", true)
  | _ => ("PaleMoor$Whole", "kept", "Z", false)
def tyX8 : Nat → FieldType := fun k => match k with
  | 0 => .object "PaleMoor$Moor"
  | 1 => .object "PaleMoor$Likings"
  | 2 => .object "PaleMoor$Sights"
  | _ => .boolean
abbrev wsX80 : List Cond := u_ws RX8 TX8 4
theorem nmX8 : ∀ a, a < 4 → ∀ b, b < 4 → a ≠ b → (TX8 a).2.1 ≠ (TX8 b).2.1 := by decide +kernel
theorem tyX8_ok : ∀ k, k < 4 → parseFieldDescriptor (TX8 k).2.2.1 = some (tyX8 k) := by decide +kernel
abbrev cX8_init : ByteArray := prog_10_method_1_code
def yX8_init : MethodName := ⟨RX8, "<init>", "()V"⟩
abbrev cX8_copyFrom : ByteArray := prog_10_method_2_code
def yX8_copyFrom : MethodName := ⟨RX8, "copyFrom", "(LPaleMoor$Whole;)V"⟩
def RX9 : String := "PaleMoor"
def TX9 : u_T := fun k => match k with
  | 0 => ("PaleMoor", "now", "LPaleMoor$Whole;", true)
  | 1 => ("PaleMoor", "image0", "LPaleMoor$Whole;", true)
  | 2 => ("PaleMoor", "image1", "LPaleMoor$Whole;", true)
  | 3 => ("PaleMoor", "trial", "LPaleMoor$Moor;", true)
  | 4 => ("PaleMoor", "pad", "LPaleMoor$Pad;", true)
  | 5 => ("PaleMoor", "weeks", "LPaleMoor$Weeks;", true)
  | 6 => ("PaleMoor", "rounds", "LPaleMoor$Rounds;", true)
  | _ => ("PaleMoor", "rails", "LPaleMoor$Rails;", true)
def tyX9 : Nat → FieldType := fun k => match k with
  | 0 => .object "PaleMoor$Whole"
  | 1 => .object "PaleMoor$Whole"
  | 2 => .object "PaleMoor$Whole"
  | 3 => .object "PaleMoor$Moor"
  | 4 => .object "PaleMoor$Pad"
  | 5 => .object "PaleMoor$Weeks"
  | 6 => .object "PaleMoor$Rounds"
  | _ => .object "PaleMoor$Rails"
abbrev wsX90 : List Cond := u_ws RX9 TX9 8
theorem nmX9 : ∀ a, a < 8 → ∀ b, b < 8 → a ≠ b → (TX9 a).2.1 ≠ (TX9 b).2.1 := by decide +kernel
theorem tyX9_ok : ∀ k, k < 8 → parseFieldDescriptor (TX9 k).2.2.1 = some (tyX9 k) := by decide +kernel
abbrev cX9_init : ByteArray := prog_1_method_1_code
def yX9_init : MethodName := ⟨RX9, "<init>", "()V"⟩
abbrev cX9_pale : ByteArray := prog_1_method_2_code
def yX9_pale : MethodName := ⟨RX9, "pale", "(III)I"⟩
abbrev cX9_road : ByteArray := prog_1_method_3_code
def yX9_road : MethodName := ⟨RX9, "road", "(III)I"⟩
abbrev cX9_farm : ByteArray := prog_1_method_4_code
def yX9_farm : MethodName := ⟨RX9, "farm", "(III)I"⟩
abbrev cX9_likes : ByteArray := prog_1_method_5_code
def yX9_likes : MethodName := ⟨RX9, "likes", "(III)I"⟩
abbrev cX9_say : ByteArray := prog_1_method_6_code
def yX9_say : MethodName := ⟨RX9, "say", "(I)I"⟩
abbrev cX9_wipe : ByteArray := prog_1_method_7_code
def yX9_wipe : MethodName := ⟨RX9, "wipe", "()I"⟩
abbrev cX9_fault : ByteArray := prog_1_method_8_code
def yX9_fault : MethodName := ⟨RX9, "fault", "()I"⟩
abbrev cX9_judge : ByteArray := prog_1_method_9_code
def yX9_judge : MethodName := ⟨RX9, "judge", "(I)I"⟩
abbrev cX9_done : ByteArray := prog_1_method_10_code
def yX9_done : MethodName := ⟨RX9, "done", "()I"⟩
abbrev cX9_behind : ByteArray := prog_1_method_11_code
def yX9_behind : MethodName := ⟨RX9, "behind", "(II)I"⟩
abbrev cX9_goes : ByteArray := prog_1_method_12_code
def yX9_goes : MethodName := ⟨RX9, "goes", "(II)I"⟩
abbrev cX9_then : ByteArray := prog_1_method_13_code
def yX9_then : MethodName := ⟨RX9, "then", "(I)I"⟩
abbrev cX9_round : ByteArray := prog_1_method_14_code
def yX9_round : MethodName := ⟨RX9, "round", "(II)I"⟩
abbrev cX9_mends : ByteArray := prog_1_method_15_code
def yX9_mends : MethodName := ⟨RX9, "mends", "(I)I"⟩
abbrev cX9_steady : ByteArray := prog_1_method_16_code
def yX9_steady : MethodName := ⟨RX9, "steady", "()I"⟩
abbrev cX9_wed : ByteArray := prog_1_method_17_code
def yX9_wed : MethodName := ⟨RX9, "wed", "(III)I"⟩
abbrev cX9_seen : ByteArray := prog_1_method_18_code
def yX9_seen : MethodName := ⟨RX9, "seen", "(IIZ)I"⟩
abbrev cX9_forget : ByteArray := prog_1_method_19_code
def yX9_forget : MethodName := ⟨RX9, "forget", "()I"⟩
abbrev cX9_posts : ByteArray := prog_1_method_20_code
def yX9_posts : MethodName := ⟨RX9, "posts", "(I)I"⟩
abbrev cX9_ask : ByteArray := prog_1_method_21_code
def yX9_ask : MethodName := ⟨RX9, "ask", "(I)I"⟩
abbrev cX9_heaps : ByteArray := prog_1_method_22_code
def yX9_heaps : MethodName := ⟨RX9, "heaps", "(II)I"⟩
abbrev cX9_gust : ByteArray := prog_1_method_23_code
def yX9_gust : MethodName := ⟨RX9, "gust", "(IIIII)J"⟩
abbrev cX9_year : ByteArray := prog_1_method_24_code
def yX9_year : MethodName := ⟨RX9, "year", "(III)I"⟩
abbrev cX9_image : ByteArray := prog_1_method_25_code
def yX9_image : MethodName := ⟨RX9, "image", "(I)I"⟩
abbrev cX9_restore : ByteArray := prog_1_method_26_code
def yX9_restore : MethodName := ⟨RX9, "restore", "(I)I"⟩
abbrev cX9_told : ByteArray := prog_1_method_27_code
def yX9_told : MethodName := ⟨RX9, "told", "(I)I"⟩
abbrev cX9_toldOfAll : ByteArray := prog_1_method_28_code
def yX9_toldOfAll : MethodName := ⟨RX9, "toldOfAll", "(I)I"⟩
abbrev cX9_toldOfFarm : ByteArray := prog_1_method_29_code
def yX9_toldOfFarm : MethodName := ⟨RX9, "toldOfFarm", "(II)I"⟩
abbrev cX9_toldOfOne : ByteArray := prog_1_method_30_code
def yX9_toldOfOne : MethodName := ⟨RX9, "toldOfOne", "(II)I"⟩
abbrev cX9_toldOfPair : ByteArray := prog_1_method_31_code
def yX9_toldOfPair : MethodName := ⟨RX9, "toldOfPair", "(III)I"⟩
abbrev cX9_isFarm : ByteArray := prog_1_method_32_code
def yX9_isFarm : MethodName := ⟨RX9, "isFarm", "(I)Z"⟩
abbrev cX9_areTwoFarms : ByteArray := prog_1_method_33_code
def yX9_areTwoFarms : MethodName := ⟨RX9, "areTwoFarms", "(II)Z"⟩
abbrev cX9_isOne : ByteArray := prog_1_method_34_code
def yX9_isOne : MethodName := ⟨RX9, "isOne", "(II)Z"⟩
abbrev cX9_isZeroOrOne : ByteArray := prog_1_method_35_code
def yX9_isZeroOrOne : MethodName := ⟨RX9, "isZeroOrOne", "(I)Z"⟩
def RX10 : String := "PaleMoorModel"
def TX10 : u_T := fun k => match k with
  | 0 => ("PaleMoorModel", "book", "[I", true)
  | 1 => ("PaleMoorModel", "now", "[I", true)
  | 2 => ("PaleMoorModel", "roads", "[I", true)
  | 3 => ("PaleMoorModel", "rows", "[I", true)
  | 4 => ("PaleMoorModel", "sights", "I", false)
  | 5 => ("PaleMoorModel", "sight", "[I", true)
  | 6 => ("PaleMoorModel", "signs", "I", false)
  | 7 => ("PaleMoorModel", "pad", "[I", true)
  | 8 => ("PaleMoorModel", "miles", "I", false)
  | 9 => ("PaleMoorModel", "gapAt", "I", false)
  | 10 => ("PaleMoorModel", "gapWhich", "I", false)
  | 11 => ("PaleMoorModel", "had", "[I", true)
  | 12 => ("PaleMoorModel", "reason", "I", false)
  | 13 => ("PaleMoorModel", "acts", "I", false)
  | 14 => ("PaleMoorModel", "apart", "[I", true)
  | 15 => ("PaleMoorModel", "cost", "[I", true)
  | 16 => ("PaleMoorModel", "couple", "[I", true)
  | 17 => ("PaleMoorModel", "spouse", "[I", true)
  | 18 => ("PaleMoorModel", "chosen", "[I", true)
  | 19 => ("PaleMoorModel", "fitting", "[I", true)
  | 20 => ("PaleMoorModel", "worth", "[I", true)
  | 21 => ("PaleMoorModel", "comes", "[Z", true)
  | 22 => ("PaleMoorModel", "image", "[I", true)
  | _ => ("PaleMoorModel", "isKept", "[Z", true)
def tyX10 : Nat → FieldType := fun k => match k with
  | 0 => .array .int
  | 1 => .array .int
  | 2 => .array .int
  | 3 => .array .int
  | 4 => .int
  | 5 => .array .int
  | 6 => .int
  | 7 => .array .int
  | 8 => .int
  | 9 => .int
  | 10 => .int
  | 11 => .array .int
  | 12 => .int
  | 13 => .int
  | 14 => .array .int
  | 15 => .array .int
  | 16 => .array .int
  | 17 => .array .int
  | 18 => .array .int
  | 19 => .array .int
  | 20 => .array .int
  | 21 => .array .boolean
  | 22 => .array .int
  | _ => .array .boolean
abbrev wsX100 : List Cond := u_ws RX10 TX10 24
theorem nmX10 : ∀ a, a < 24 → ∀ b, b < 24 → a ≠ b → (TX10 a).2.1 ≠ (TX10 b).2.1 := by decide +kernel
theorem tyX10_ok : ∀ k, k < 24 → parseFieldDescriptor (TX10 k).2.2.1 = some (tyX10 k) := by decide +kernel
abbrev cX10_init : ByteArray := prog_12_method_1_code
def yX10_init : MethodName := ⟨RX10, "<init>", "()V"⟩
abbrev cX10_in : ByteArray := prog_12_method_2_code
def yX10_in : MethodName := ⟨RX10, "in", "(III)Z"⟩
abbrev cX10_has : ByteArray := prog_12_method_3_code
def yX10_has : MethodName := ⟨RX10, "has", "(II)Z"⟩
abbrev cX10_isFarm : ByteArray := prog_12_method_4_code
def yX10_isFarm : MethodName := ⟨RX10, "isFarm", "(I)Z"⟩
abbrev cX10_pale : ByteArray := prog_12_method_5_code
def yX10_pale : MethodName := ⟨RX10, "pale", "(III)I"⟩
abbrev cX10_road : ByteArray := prog_12_method_6_code
def yX10_road : MethodName := ⟨RX10, "road", "(III)I"⟩
abbrev cX10_farm : ByteArray := prog_12_method_7_code
def yX10_farm : MethodName := ⟨RX10, "farm", "(III)I"⟩
abbrev cX10_rowOf : ByteArray := prog_12_method_8_code
def yX10_rowOf : MethodName := ⟨RX10, "rowOf", "(II)I"⟩
abbrev cX10_likes : ByteArray := prog_12_method_9_code
def yX10_likes : MethodName := ⟨RX10, "likes", "(III)I"⟩
abbrev cX10_say : ByteArray := prog_12_method_10_code
def yX10_say : MethodName := ⟨RX10, "say", "(I)I"⟩
abbrev cX10_wipe : ByteArray := prog_12_method_11_code
def yX10_wipe : MethodName := ⟨RX10, "wipe", "()I"⟩
abbrev cX10_step : ByteArray := prog_12_method_12_code
def yX10_step : MethodName := ⟨RX10, "step", "(II)I"⟩
abbrev cX10_faultOf : ByteArray := prog_12_method_13_code
def yX10_faultOf : MethodName := ⟨RX10, "faultOf", "()I"⟩
abbrev cX10_fault : ByteArray := prog_12_method_14_code
def yX10_fault : MethodName := ⟨RX10, "fault", "()I"⟩
abbrev cX10_asNow : ByteArray := prog_12_method_15_code
def yX10_asNow : MethodName := ⟨RX10, "asNow", "()V"⟩
abbrev cX10_palesOf : ByteArray := prog_12_method_16_code
def yX10_palesOf : MethodName := ⟨RX10, "palesOf", "(I)I"⟩
abbrev cX10_away : ByteArray := prog_12_method_17_code
def yX10_away : MethodName := ⟨RX10, "away", "()I"⟩
abbrev cX10_lay : ByteArray := prog_12_method_18_code
def yX10_lay : MethodName := ⟨RX10, "lay", "(III)V"⟩
abbrev cX10_go : ByteArray := prog_12_method_19_code
def yX10_go : MethodName := ⟨RX10, "go", "(II)I"⟩
abbrev cX10_mend : ByteArray := prog_12_method_20_code
def yX10_mend : MethodName := ⟨RX10, "mend", "(I)I"⟩
abbrev cX10_split : ByteArray := prog_12_method_21_code
def yX10_split : MethodName := ⟨RX10, "split", "(II)I"⟩
abbrev cX10_blow : ByteArray := prog_12_method_22_code
def yX10_blow : MethodName := ⟨RX10, "blow", "(I)I"⟩
abbrev cX10_endDay : ByteArray := prog_12_method_23_code
def yX10_endDay : MethodName := ⟨RX10, "endDay", "()I"⟩
abbrev cX10_oneAct : ByteArray := prog_12_method_24_code
def yX10_oneAct : MethodName := ⟨RX10, "oneAct", "(I)I"⟩
abbrev cX10_goWeeks : ByteArray := prog_12_method_25_code
def yX10_goWeeks : MethodName := ⟨RX10, "goWeeks", "()I"⟩
abbrev cX10_judge : ByteArray := prog_12_method_26_code
def yX10_judge : MethodName := ⟨RX10, "judge", "(I)I"⟩
abbrev cX10_barOfWeeks : ByteArray := prog_12_method_27_code
def yX10_barOfWeeks : MethodName := ⟨RX10, "barOfWeeks", "()I"⟩
abbrev cX10_done : ByteArray := prog_12_method_28_code
def yX10_done : MethodName := ⟨RX10, "done", "()I"⟩
abbrev cX10_behind : ByteArray := prog_12_method_29_code
def yX10_behind : MethodName := ⟨RX10, "behind", "(II)I"⟩
abbrev cX10_goes : ByteArray := prog_12_method_30_code
def yX10_goes : MethodName := ⟨RX10, "goes", "(II)I"⟩
abbrev cX10_then : ByteArray := prog_12_method_31_code
def yX10_then : MethodName := ⟨RX10, "then", "(I)I"⟩
abbrev cX10_layApart : ByteArray := prog_12_method_32_code
def yX10_layApart : MethodName := ⟨RX10, "layApart", "()V"⟩
abbrev cX10_round : ByteArray := prog_12_method_33_code
def yX10_round : MethodName := ⟨RX10, "round", "(II)I"⟩
abbrev cX10_mends : ByteArray := prog_12_method_34_code
def yX10_mends : MethodName := ⟨RX10, "mends", "(I)I"⟩
abbrev cX10_placeOf : ByteArray := prog_12_method_35_code
def yX10_placeOf : MethodName := ⟨RX10, "placeOf", "(III)I"⟩
abbrev cX10_isSteady : ByteArray := prog_12_method_36_code
def yX10_isSteady : MethodName := ⟨RX10, "isSteady", "()Z"⟩
abbrev cX10_laySteady : ByteArray := prog_12_method_37_code
def yX10_laySteady : MethodName := ⟨RX10, "laySteady", "(I)I"⟩
abbrev cX10_steady : ByteArray := prog_12_method_38_code
def yX10_steady : MethodName := ⟨RX10, "steady", "()I"⟩
abbrev cX10_wed : ByteArray := prog_12_method_39_code
def yX10_wed : MethodName := ⟨RX10, "wed", "(III)I"⟩
abbrev cX10_seen : ByteArray := prog_12_method_40_code
def yX10_seen : MethodName := ⟨RX10, "seen", "(IIZ)I"⟩
abbrev cX10_forget : ByteArray := prog_12_method_41_code
def yX10_forget : MethodName := ⟨RX10, "forget", "()I"⟩
abbrev cX10_isDown : ByteArray := prog_12_method_42_code
def yX10_isDown : MethodName := ⟨RX10, "isDown", "(III)Z"⟩
abbrev cX10_isFit : ByteArray := prog_12_method_43_code
def yX10_isFit : MethodName := ⟨RX10, "isFit", "(I)Z"⟩
abbrev cX10_posts : ByteArray := prog_12_method_44_code
def yX10_posts : MethodName := ⟨RX10, "posts", "(I)I"⟩
abbrev cX10_ask : ByteArray := prog_12_method_45_code
def yX10_ask : MethodName := ⟨RX10, "ask", "(I)I"⟩
abbrev cX10_layWorth : ByteArray := prog_12_method_46_code
def yX10_layWorth : MethodName := ⟨RX10, "layWorth", "(I)V"⟩
abbrev cX10_heaps : ByteArray := prog_12_method_47_code
def yX10_heaps : MethodName := ⟨RX10, "heaps", "(II)I"⟩
abbrev cX10_power : ByteArray := prog_12_method_48_code
def yX10_power : MethodName := ⟨RX10, "power", "(II)J"⟩
abbrev cX10_gust : ByteArray := prog_12_method_49_code
def yX10_gust : MethodName := ⟨RX10, "gust", "(IIIII)J"⟩
abbrev cX10_year : ByteArray := prog_12_method_50_code
def yX10_year : MethodName := ⟨RX10, "year", "(III)I"⟩
abbrev cX10_image : ByteArray := prog_12_method_51_code
def yX10_image : MethodName := ⟨RX10, "image", "(I)I"⟩
abbrev cX10_restore : ByteArray := prog_12_method_52_code
def yX10_restore : MethodName := ⟨RX10, "restore", "(I)I"⟩
abbrev cX10_told : ByteArray := prog_12_method_53_code
def yX10_told : MethodName := ⟨RX10, "told", "(I)I"⟩
def RJ6 : String := "java/lang/Integer"
def TJ6 : u_T := fun k => match k with
  | _ => ("", "", "", false)
def tyJ6 : Nat → FieldType := fun k => match k with
  | _ => .int
abbrev wsJ60 : List Cond := u_ws RJ6 TJ6 0
theorem nmJ6 : ∀ a, a < 0 → ∀ b, b < 0 → a ≠ b → (TJ6 a).2.1 ≠ (TJ6 b).2.1 := by decide +kernel
theorem tyJ6_ok : ∀ k, k < 0 → parseFieldDescriptor (TJ6 k).2.2.1 = some (tyJ6 k) := by decide +kernel
abbrev cJ6_compare_7cf53 : ByteArray := prog_13_method_40_code
def yJ6_compare_7cf53 : MethodName := ⟨RJ6, "compare", "(II)I"⟩
abbrev cJ6_bitCount_0f7a4 : ByteArray := prog_13_method_49_code
def yJ6_bitCount_0f7a4 : MethodName := ⟨RJ6, "bitCount", "(I)I"⟩
def RJ9 : String := "java/lang/Math"
def TJ9 : u_T := fun k => match k with
  | _ => ("", "", "", false)
def tyJ9 : Nat → FieldType := fun k => match k with
  | _ => .int
abbrev wsJ90 : List Cond := u_ws RJ9 TJ9 0
theorem nmJ9 : ∀ a, a < 0 → ∀ b, b < 0 → a ≠ b → (TJ9 a).2.1 ≠ (TJ9 b).2.1 := by decide +kernel
theorem tyJ9_ok : ∀ k, k < 0 → parseFieldDescriptor (TJ9 k).2.2.1 = some (tyJ9 k) := by decide +kernel
abbrev cJ9_max_7cf53 : ByteArray := prog_14_method_65_code
def yJ9_max_7cf53 : MethodName := ⟨RJ9, "max", "(II)I"⟩
abbrev cJ9_min_7cf53 : ByteArray := prog_14_method_69_code
def yJ9_min_7cf53 : MethodName := ⟨RJ9, "min", "(II)I"⟩
def RJ10 : String := "java/lang/System"
def TJ10 : u_T := fun k => match k with
  | _ => ("", "", "", false)
def tyJ10 : Nat → FieldType := fun k => match k with
  | _ => .int
abbrev wsJ100 : List Cond := u_ws RJ10 TJ10 0
theorem nmJ10 : ∀ a, a < 0 → ∀ b, b < 0 → a ≠ b → (TJ10 a).2.1 ≠ (TJ10 b).2.1 := by decide +kernel
theorem tyJ10_ok : ∀ k, k < 0 → parseFieldDescriptor (TJ10 k).2.2.1 = some (tyJ10 k) := by decide +kernel
def RJ7 : String := "java/util/Arrays"
def TJ7 : u_T := fun k => match k with
  | _ => ("", "", "", false)
def tyJ7 : Nat → FieldType := fun k => match k with
  | _ => .int
abbrev wsJ70 : List Cond := u_ws RJ7 TJ7 0
theorem nmJ7 : ∀ a, a < 0 → ∀ b, b < 0 → a ≠ b → (TJ7 a).2.1 ≠ (TJ7 b).2.1 := by decide +kernel
theorem tyJ7_ok : ∀ k, k < 0 → parseFieldDescriptor (TJ7 k).2.2.1 = some (tyJ7 k) := by decide +kernel
abbrev cJ7_fill_53178 : ByteArray := prog_16_method_103_code
def yJ7_fill_53178 : MethodName := ⟨RJ7, "fill", "([II)V"⟩
def RL : String := "PaleMoorLaw"
abbrev cL_law : ByteArray := code
def yL_law : MethodName := ⟨RL, "law", "([I)Z"⟩
abbrev vwCl : List vw_C := [(RX1, TX1, 2), (RX2, TX2, 5), (RX3, TX3, 2), (RX4, TX4, 1), (RX5, TX5, 2), (RX6, TX6, 4), (RX7, TX7, 6), (RX8, TX8, 4), (RX9, TX9, 8), (RX10, TX10, 24)]
end
section
theorem dX0_power_0 : decode cX0_power 0 = .ok (.lconst 1, 1) := by decide +kernel
theorem dX0_power_1 : decode cX0_power 1 = .ok (.lstore_n 2, 1) := by decide +kernel
theorem dX0_power_2 : decode cX0_power 2 = .ok (.iconst 0, 1) := by decide +kernel
theorem dX0_power_3 : decode cX0_power 3 = .ok (.istore 4, 2) := by decide +kernel
theorem dX0_power_5 : decode cX0_power 5 = .ok (.iload 4, 2) := by decide +kernel
theorem dX0_power_7 : decode cX0_power 7 = .ok (.iload_n 1, 1) := by decide +kernel
theorem dX0_power_8 : decode cX0_power 8 = .ok (.if_icmp .ge 14, 3) := by decide +kernel
theorem dX0_power_11 : decode cX0_power 11 = .ok (.lload_n 2, 1) := by decide +kernel
theorem dX0_power_12 : decode cX0_power 12 = .ok (.iload_n 0, 1) := by decide +kernel
theorem dX0_power_13 : decode cX0_power 13 = .ok (.i2l, 1) := by decide +kernel
theorem dX0_power_14 : decode cX0_power 14 = .ok (.lmul, 1) := by decide +kernel
theorem dX0_power_15 : decode cX0_power 15 = .ok (.lstore_n 2, 1) := by decide +kernel
theorem dX0_power_16 : decode cX0_power 16 = .ok (.iinc 4 1, 3) := by decide +kernel
theorem dX0_power_19 : decode cX0_power 19 = .ok (.goto (-14), 3) := by decide +kernel
theorem dX0_power_22 : decode cX0_power 22 = .ok (.lload_n 2, 1) := by decide +kernel
theorem dX0_power_23 : decode cX0_power 23 = .ok (.lreturn, 1) := by decide +kernel
theorem dX0_waysOfJust_0 : decode cX0_waysOfJust 0 = .ok (.iload_n 1, 1) := by decide +kernel
theorem dX0_waysOfJust_1 : decode cX0_waysOfJust 1 = .ok (.iload_n 0, 1) := by decide +kernel
theorem dX0_waysOfJust_2 : decode cX0_waysOfJust 2 = .ok (.invokestatic 7, 3) := by decide +kernel
theorem dX0_waysOfJust_5 : decode cX0_waysOfJust 5 = .ok (.iload_n 1, 1) := by decide +kernel
theorem dX0_waysOfJust_6 : decode cX0_waysOfJust 6 = .ok (.iconst 1, 1) := by decide +kernel
theorem dX0_waysOfJust_7 : decode cX0_waysOfJust 7 = .ok (.isub, 1) := by decide +kernel
theorem dX0_waysOfJust_8 : decode cX0_waysOfJust 8 = .ok (.iload_n 0, 1) := by decide +kernel
theorem dX0_waysOfJust_9 : decode cX0_waysOfJust 9 = .ok (.invokestatic 7, 3) := by decide +kernel
theorem dX0_waysOfJust_12 : decode cX0_waysOfJust 12 = .ok (.lsub, 1) := by decide +kernel
theorem dX0_waysOfJust_13 : decode cX0_waysOfJust 13 = .ok (.lreturn, 1) := by decide +kernel
theorem dX0_sumOfStrongest_0 : decode cX0_sumOfStrongest 0 = .ok (.lconst 0, 1) := by decide +kernel
theorem dX0_sumOfStrongest_1 : decode cX0_sumOfStrongest 1 = .ok (.lstore_n 2, 1) := by decide +kernel
theorem dX0_sumOfStrongest_2 : decode cX0_sumOfStrongest 2 = .ok (.iconst 1, 1) := by decide +kernel
theorem dX0_sumOfStrongest_3 : decode cX0_sumOfStrongest 3 = .ok (.istore 4, 2) := by decide +kernel
theorem dX0_sumOfStrongest_5 : decode cX0_sumOfStrongest 5 = .ok (.iload 4, 2) := by decide +kernel
theorem dX0_sumOfStrongest_7 : decode cX0_sumOfStrongest 7 = .ok (.iload_n 1, 1) := by decide +kernel
theorem dX0_sumOfStrongest_8 : decode cX0_sumOfStrongest 8 = .ok (.if_icmp .gt 22, 3) := by decide +kernel
theorem dX0_sumOfStrongest_11 : decode cX0_sumOfStrongest 11 = .ok (.lload_n 2, 1) := by decide +kernel
theorem dX0_sumOfStrongest_12 : decode cX0_sumOfStrongest 12 = .ok (.iload 4, 2) := by decide +kernel
theorem dX0_sumOfStrongest_14 : decode cX0_sumOfStrongest 14 = .ok (.i2l, 1) := by decide +kernel
theorem dX0_sumOfStrongest_15 : decode cX0_sumOfStrongest 15 = .ok (.iload_n 0, 1) := by decide +kernel
theorem dX0_sumOfStrongest_16 : decode cX0_sumOfStrongest 16 = .ok (.iload 4, 2) := by decide +kernel
theorem dX0_sumOfStrongest_18 : decode cX0_sumOfStrongest 18 = .ok (.invokestatic 13, 3) := by decide +kernel
theorem dX0_sumOfStrongest_21 : decode cX0_sumOfStrongest 21 = .ok (.lmul, 1) := by decide +kernel
theorem dX0_sumOfStrongest_22 : decode cX0_sumOfStrongest 22 = .ok (.ladd, 1) := by decide +kernel
theorem dX0_sumOfStrongest_23 : decode cX0_sumOfStrongest 23 = .ok (.lstore_n 2, 1) := by decide +kernel
theorem dX0_sumOfStrongest_24 : decode cX0_sumOfStrongest 24 = .ok (.iinc 4 1, 3) := by decide +kernel
theorem dX0_sumOfStrongest_27 : decode cX0_sumOfStrongest 27 = .ok (.goto (-22), 3) := by decide +kernel
theorem dX0_sumOfStrongest_30 : decode cX0_sumOfStrongest 30 = .ok (.lload_n 2, 1) := by decide +kernel
theorem dX0_sumOfStrongest_31 : decode cX0_sumOfStrongest 31 = .ok (.lreturn, 1) := by decide +kernel
theorem dX0_partInLowestTerms_0 : decode cX0_partInLowestTerms 0 = .ok (.lload_n 0, 1) := by decide +kernel
theorem dX0_partInLowestTerms_1 : decode cX0_partInLowestTerms 1 = .ok (.lload_n 2, 1) := by decide +kernel
theorem dX0_partInLowestTerms_2 : decode cX0_partInLowestTerms 2 = .ok (.invokestatic 16, 3) := by decide +kernel
theorem dX0_partInLowestTerms_5 : decode cX0_partInLowestTerms 5 = .ok (.lstore 5, 2) := by decide +kernel
theorem dX0_partInLowestTerms_7 : decode cX0_partInLowestTerms 7 = .ok (.iload 4, 2) := by decide +kernel
theorem dX0_partInLowestTerms_9 : decode cX0_partInLowestTerms 9 = .ok (.ifCond .ne 7, 3) := by decide +kernel
theorem dX0_partInLowestTerms_12 : decode cX0_partInLowestTerms 12 = .ok (.lload_n 0, 1) := by decide +kernel
theorem dX0_partInLowestTerms_13 : decode cX0_partInLowestTerms 13 = .ok (.goto 4, 3) := by decide +kernel
theorem dX0_partInLowestTerms_16 : decode cX0_partInLowestTerms 16 = .ok (.lload_n 2, 1) := by decide +kernel
theorem dX0_partInLowestTerms_17 : decode cX0_partInLowestTerms 17 = .ok (.lstore 7, 2) := by decide +kernel
theorem dX0_partInLowestTerms_19 : decode cX0_partInLowestTerms 19 = .ok (.lload 5, 2) := by decide +kernel
theorem dX0_partInLowestTerms_21 : decode cX0_partInLowestTerms 21 = .ok (.lconst 1, 1) := by decide +kernel
theorem dX0_partInLowestTerms_22 : decode cX0_partInLowestTerms 22 = .ok (.lcmp, 1) := by decide +kernel
theorem dX0_partInLowestTerms_23 : decode cX0_partInLowestTerms 23 = .ok (.ifCond .le 11, 3) := by decide +kernel
theorem dX0_partInLowestTerms_26 : decode cX0_partInLowestTerms 26 = .ok (.lload 7, 2) := by decide +kernel
theorem dX0_partInLowestTerms_28 : decode cX0_partInLowestTerms 28 = .ok (.lload 5, 2) := by decide +kernel
theorem dX0_partInLowestTerms_30 : decode cX0_partInLowestTerms 30 = .ok (.ldiv, 1) := by decide +kernel
theorem dX0_partInLowestTerms_31 : decode cX0_partInLowestTerms 31 = .ok (.goto 5, 3) := by decide +kernel
theorem dX0_partInLowestTerms_34 : decode cX0_partInLowestTerms 34 = .ok (.lload 7, 2) := by decide +kernel
theorem dX0_partInLowestTerms_36 : decode cX0_partInLowestTerms 36 = .ok (.lreturn, 1) := by decide +kernel
theorem dX0_greatestCommon_0 : decode cX0_greatestCommon 0 = .ok (.lload_n 0, 1) := by decide +kernel
theorem dX0_greatestCommon_1 : decode cX0_greatestCommon 1 = .ok (.lstore 4, 2) := by decide +kernel
theorem dX0_greatestCommon_3 : decode cX0_greatestCommon 3 = .ok (.lload_n 2, 1) := by decide +kernel
theorem dX0_greatestCommon_4 : decode cX0_greatestCommon 4 = .ok (.lstore 6, 2) := by decide +kernel
theorem dX0_greatestCommon_6 : decode cX0_greatestCommon 6 = .ok (.iconst 0, 1) := by decide +kernel
theorem dX0_greatestCommon_7 : decode cX0_greatestCommon 7 = .ok (.istore 8, 2) := by decide +kernel
theorem dX0_greatestCommon_9 : decode cX0_greatestCommon 9 = .ok (.iload 8, 2) := by decide +kernel
theorem dX0_greatestCommon_11 : decode cX0_greatestCommon 11 = .ok (.bipush 100, 2) := by decide +kernel
theorem dX0_greatestCommon_13 : decode cX0_greatestCommon 13 = .ok (.if_icmp .ge 31, 3) := by decide +kernel
theorem dX0_greatestCommon_16 : decode cX0_greatestCommon 16 = .ok (.lload 6, 2) := by decide +kernel
theorem dX0_greatestCommon_18 : decode cX0_greatestCommon 18 = .ok (.lconst 0, 1) := by decide +kernel
theorem dX0_greatestCommon_19 : decode cX0_greatestCommon 19 = .ok (.lcmp, 1) := by decide +kernel
theorem dX0_greatestCommon_20 : decode cX0_greatestCommon 20 = .ok (.ifCond .eq 24, 3) := by decide +kernel
theorem dX0_greatestCommon_23 : decode cX0_greatestCommon 23 = .ok (.lload 4, 2) := by decide +kernel
theorem dX0_greatestCommon_25 : decode cX0_greatestCommon 25 = .ok (.lload 6, 2) := by decide +kernel
theorem dX0_greatestCommon_27 : decode cX0_greatestCommon 27 = .ok (.lrem, 1) := by decide +kernel
theorem dX0_greatestCommon_28 : decode cX0_greatestCommon 28 = .ok (.lstore 9, 2) := by decide +kernel
theorem dX0_greatestCommon_30 : decode cX0_greatestCommon 30 = .ok (.lload 6, 2) := by decide +kernel
theorem dX0_greatestCommon_32 : decode cX0_greatestCommon 32 = .ok (.lstore 4, 2) := by decide +kernel
theorem dX0_greatestCommon_34 : decode cX0_greatestCommon 34 = .ok (.lload 9, 2) := by decide +kernel
theorem dX0_greatestCommon_36 : decode cX0_greatestCommon 36 = .ok (.lstore 6, 2) := by decide +kernel
theorem dX0_greatestCommon_38 : decode cX0_greatestCommon 38 = .ok (.iinc 8 1, 3) := by decide +kernel
theorem dX0_greatestCommon_41 : decode cX0_greatestCommon 41 = .ok (.goto (-32), 3) := by decide +kernel
theorem dX0_greatestCommon_44 : decode cX0_greatestCommon 44 = .ok (.lload 4, 2) := by decide +kernel
theorem dX0_greatestCommon_46 : decode cX0_greatestCommon 46 = .ok (.lreturn, 1) := by decide +kernel
theorem dX1_init_0 : decode cX1_init 0 = .ok (.aload_n 0, 1) := by decide +kernel
theorem dX1_init_1 : decode cX1_init 1 = .ok (.invokespecial 3, 3) := by decide +kernel
theorem dX1_init_4 : decode cX1_init 4 = .ok (.aload_n 0, 1) := by decide +kernel
theorem dX1_init_5 : decode cX1_init 5 = .ok (.bipush 8, 2) := by decide +kernel
theorem dX1_init_7 : decode cX1_init 7 = .ok (.newarray .int, 2) := by decide +kernel
theorem dX1_init_9 : decode cX1_init 9 = .ok (.putfield 9, 3) := by decide +kernel
theorem dX1_init_12 : decode cX1_init 12 = .ok (.aload_n 0, 1) := by decide +kernel
theorem dX1_init_13 : decode cX1_init 13 = .ok (.bipush 32, 2) := by decide +kernel
theorem dX1_init_15 : decode cX1_init 15 = .ok (.newarray .int, 2) := by decide +kernel
theorem dX1_init_17 : decode cX1_init 17 = .ok (.putfield 15, 3) := by decide +kernel
theorem dX1_init_20 : decode cX1_init 20 = .ok (.iconst 0, 1) := by decide +kernel
theorem dX1_init_21 : decode cX1_init 21 = .ok (.istore_n 1, 1) := by decide +kernel
theorem dX1_init_22 : decode cX1_init 22 = .ok (.iload_n 1, 1) := by decide +kernel
theorem dX1_init_23 : decode cX1_init 23 = .ok (.bipush 8, 2) := by decide +kernel
theorem dX1_init_25 : decode cX1_init 25 = .ok (.if_icmp .ge 17, 3) := by decide +kernel
theorem dX1_init_28 : decode cX1_init 28 = .ok (.aload_n 0, 1) := by decide +kernel
theorem dX1_init_29 : decode cX1_init 29 = .ok (.getfield 9, 3) := by decide +kernel
theorem dX1_init_32 : decode cX1_init 32 = .ok (.iload_n 1, 1) := by decide +kernel
theorem dX1_init_33 : decode cX1_init 33 = .ok (.bipush 123, 2) := by decide +kernel
theorem dX1_init_35 : decode cX1_init 35 = .ok (.iastore, 1) := by decide +kernel
theorem dX1_init_36 : decode cX1_init 36 = .ok (.iinc 1 1, 3) := by decide +kernel
theorem dX1_init_39 : decode cX1_init 39 = .ok (.goto (-17), 3) := by decide +kernel
theorem dX1_init_42 : decode cX1_init 42 = .ok (.iconst 0, 1) := by decide +kernel
theorem dX1_init_43 : decode cX1_init 43 = .ok (.istore_n 1, 1) := by decide +kernel
theorem dX1_init_44 : decode cX1_init 44 = .ok (.iload_n 1, 1) := by decide +kernel
theorem dX1_init_45 : decode cX1_init 45 = .ok (.bipush 32, 2) := by decide +kernel
theorem dX1_init_47 : decode cX1_init 47 = .ok (.if_icmp .ge 18, 3) := by decide +kernel
theorem dX1_init_50 : decode cX1_init 50 = .ok (.aload_n 0, 1) := by decide +kernel
theorem dX1_init_51 : decode cX1_init 51 = .ok (.getfield 15, 3) := by decide +kernel
theorem dX1_init_54 : decode cX1_init 54 = .ok (.iload_n 1, 1) := by decide +kernel
theorem dX1_init_55 : decode cX1_init 55 = .ok (.iload_n 1, 1) := by decide +kernel
theorem dX1_init_56 : decode cX1_init 56 = .ok (.iconst 4, 1) := by decide +kernel
theorem dX1_init_57 : decode cX1_init 57 = .ok (.irem, 1) := by decide +kernel
theorem dX1_init_58 : decode cX1_init 58 = .ok (.iastore, 1) := by decide +kernel
theorem dX1_init_59 : decode cX1_init 59 = .ok (.iinc 1 1, 3) := by decide +kernel
theorem dX1_init_62 : decode cX1_init 62 = .ok (.goto (-18), 3) := by decide +kernel
theorem dX1_init_65 : decode cX1_init 65 = .ok (.return_, 1) := by decide +kernel
theorem dX1_copyFrom_0 : decode cX1_copyFrom 0 = .ok (.aload_n 1, 1) := by decide +kernel
theorem dX1_copyFrom_1 : decode cX1_copyFrom 1 = .ok (.getfield 9, 3) := by decide +kernel
theorem dX1_copyFrom_4 : decode cX1_copyFrom 4 = .ok (.iconst 0, 1) := by decide +kernel
theorem dX1_copyFrom_5 : decode cX1_copyFrom 5 = .ok (.aload_n 0, 1) := by decide +kernel
theorem dX1_copyFrom_6 : decode cX1_copyFrom 6 = .ok (.getfield 9, 3) := by decide +kernel
theorem dX1_copyFrom_9 : decode cX1_copyFrom 9 = .ok (.iconst 0, 1) := by decide +kernel
theorem dX1_copyFrom_10 : decode cX1_copyFrom 10 = .ok (.bipush 8, 2) := by decide +kernel
theorem dX1_copyFrom_12 : decode cX1_copyFrom 12 = .ok (.invokestatic 18, 3) := by decide +kernel
theorem dX1_copyFrom_15 : decode cX1_copyFrom 15 = .ok (.aload_n 1, 1) := by decide +kernel
theorem dX1_copyFrom_16 : decode cX1_copyFrom 16 = .ok (.getfield 15, 3) := by decide +kernel
theorem dX1_copyFrom_19 : decode cX1_copyFrom 19 = .ok (.iconst 0, 1) := by decide +kernel
theorem dX1_copyFrom_20 : decode cX1_copyFrom 20 = .ok (.aload_n 0, 1) := by decide +kernel
theorem dX1_copyFrom_21 : decode cX1_copyFrom 21 = .ok (.getfield 15, 3) := by decide +kernel
theorem dX1_copyFrom_24 : decode cX1_copyFrom 24 = .ok (.iconst 0, 1) := by decide +kernel
theorem dX1_copyFrom_25 : decode cX1_copyFrom 25 = .ok (.bipush 32, 2) := by decide +kernel
theorem dX1_copyFrom_27 : decode cX1_copyFrom 27 = .ok (.invokestatic 18, 3) := by decide +kernel
theorem dX1_copyFrom_30 : decode cX1_copyFrom 30 = .ok (.return_, 1) := by decide +kernel
theorem dX1_isRow_0 : decode cX1_isRow 0 = .ok (.iload_n 0, 1) := by decide +kernel
theorem dX1_isRow_1 : decode cX1_isRow 1 = .ok (.bipush 123, 2) := by decide +kernel
theorem dX1_isRow_3 : decode cX1_isRow 3 = .ok (.if_icmp .lt 10, 3) := by decide +kernel
theorem dX1_isRow_6 : decode cX1_isRow 6 = .ok (.iload_n 0, 1) := by decide +kernel
theorem dX1_isRow_7 : decode cX1_isRow 7 = .ok (.sipush 3210, 3) := by decide +kernel
theorem dX1_isRow_10 : decode cX1_isRow 10 = .ok (.if_icmp .le 5, 3) := by decide +kernel
theorem dX1_isRow_13 : decode cX1_isRow 13 = .ok (.iconst 0, 1) := by decide +kernel
theorem dX1_isRow_14 : decode cX1_isRow 14 = .ok (.ireturn, 1) := by decide +kernel
theorem dX1_isRow_15 : decode cX1_isRow 15 = .ok (.iconst 0, 1) := by decide +kernel
theorem dX1_isRow_16 : decode cX1_isRow 16 = .ok (.istore_n 1, 1) := by decide +kernel
theorem dX1_isRow_17 : decode cX1_isRow 17 = .ok (.iload_n 0, 1) := by decide +kernel
theorem dX1_isRow_18 : decode cX1_isRow 18 = .ok (.istore_n 2, 1) := by decide +kernel
theorem dX1_isRow_19 : decode cX1_isRow 19 = .ok (.iconst 0, 1) := by decide +kernel
theorem dX1_isRow_20 : decode cX1_isRow 20 = .ok (.istore_n 3, 1) := by decide +kernel
theorem dX1_isRow_21 : decode cX1_isRow 21 = .ok (.iload_n 3, 1) := by decide +kernel
theorem dX1_isRow_22 : decode cX1_isRow 22 = .ok (.iconst 4, 1) := by decide +kernel
theorem dX1_isRow_23 : decode cX1_isRow 23 = .ok (.if_icmp .ge 23, 3) := by decide +kernel
theorem dX1_isRow_26 : decode cX1_isRow 26 = .ok (.iload_n 1, 1) := by decide +kernel
theorem dX1_isRow_27 : decode cX1_isRow 27 = .ok (.iconst 1, 1) := by decide +kernel
theorem dX1_isRow_28 : decode cX1_isRow 28 = .ok (.iload_n 2, 1) := by decide +kernel
theorem dX1_isRow_29 : decode cX1_isRow 29 = .ok (.bipush 10, 2) := by decide +kernel
theorem dX1_isRow_31 : decode cX1_isRow 31 = .ok (.irem, 1) := by decide +kernel
theorem dX1_isRow_32 : decode cX1_isRow 32 = .ok (.ishl, 1) := by decide +kernel
theorem dX1_isRow_33 : decode cX1_isRow 33 = .ok (.ior, 1) := by decide +kernel
theorem dX1_isRow_34 : decode cX1_isRow 34 = .ok (.istore_n 1, 1) := by decide +kernel
theorem dX1_isRow_35 : decode cX1_isRow 35 = .ok (.iload_n 2, 1) := by decide +kernel
theorem dX1_isRow_36 : decode cX1_isRow 36 = .ok (.bipush 10, 2) := by decide +kernel
theorem dX1_isRow_38 : decode cX1_isRow 38 = .ok (.idiv, 1) := by decide +kernel
theorem dX1_isRow_39 : decode cX1_isRow 39 = .ok (.istore_n 2, 1) := by decide +kernel
theorem dX1_isRow_40 : decode cX1_isRow 40 = .ok (.iinc 3 1, 3) := by decide +kernel
theorem dX1_isRow_43 : decode cX1_isRow 43 = .ok (.goto (-22), 3) := by decide +kernel
theorem dX1_isRow_46 : decode cX1_isRow 46 = .ok (.iload_n 1, 1) := by decide +kernel
theorem dX1_isRow_47 : decode cX1_isRow 47 = .ok (.bipush 15, 2) := by decide +kernel
theorem dX1_isRow_49 : decode cX1_isRow 49 = .ok (.if_icmp .ne 7, 3) := by decide +kernel
theorem dX1_isRow_52 : decode cX1_isRow 52 = .ok (.iconst 1, 1) := by decide +kernel
theorem dX1_isRow_53 : decode cX1_isRow 53 = .ok (.goto 4, 3) := by decide +kernel
theorem dX1_isRow_56 : decode cX1_isRow 56 = .ok (.iconst 0, 1) := by decide +kernel
theorem dX1_isRow_57 : decode cX1_isRow 57 = .ok (.ireturn, 1) := by decide +kernel
theorem dX1_rowOf_0 : decode cX1_rowOf 0 = .ok (.iload_n 1, 1) := by decide +kernel
theorem dX1_rowOf_1 : decode cX1_rowOf 1 = .ok (.iload_n 2, 1) := by decide +kernel
theorem dX1_rowOf_2 : decode cX1_rowOf 2 = .ok (.invokestatic 24, 3) := by decide +kernel
theorem dX1_rowOf_5 : decode cX1_rowOf 5 = .ok (.ifCond .eq 16, 3) := by decide +kernel
theorem dX1_rowOf_8 : decode cX1_rowOf 8 = .ok (.aload_n 0, 1) := by decide +kernel
theorem dX1_rowOf_9 : decode cX1_rowOf 9 = .ok (.getfield 9, 3) := by decide +kernel
theorem dX1_rowOf_12 : decode cX1_rowOf 12 = .ok (.iconst 4, 1) := by decide +kernel
theorem dX1_rowOf_13 : decode cX1_rowOf 13 = .ok (.iload_n 1, 1) := by decide +kernel
theorem dX1_rowOf_14 : decode cX1_rowOf 14 = .ok (.imul, 1) := by decide +kernel
theorem dX1_rowOf_15 : decode cX1_rowOf 15 = .ok (.iload_n 2, 1) := by decide +kernel
theorem dX1_rowOf_16 : decode cX1_rowOf 16 = .ok (.iadd, 1) := by decide +kernel
theorem dX1_rowOf_17 : decode cX1_rowOf 17 = .ok (.iaload, 1) := by decide +kernel
theorem dX1_rowOf_18 : decode cX1_rowOf 18 = .ok (.goto 5, 3) := by decide +kernel
theorem dX1_rowOf_21 : decode cX1_rowOf 21 = .ok (.bipush 123, 2) := by decide +kernel
theorem dX1_rowOf_23 : decode cX1_rowOf 23 = .ok (.ireturn, 1) := by decide +kernel
theorem dX1_setRow_0 : decode cX1_setRow 0 = .ok (.iload_n 1, 1) := by decide +kernel
theorem dX1_setRow_1 : decode cX1_setRow 1 = .ok (.iload_n 2, 1) := by decide +kernel
theorem dX1_setRow_2 : decode cX1_setRow 2 = .ok (.invokestatic 24, 3) := by decide +kernel
theorem dX1_setRow_5 : decode cX1_setRow 5 = .ok (.ifCond .eq 10, 3) := by decide +kernel
theorem dX1_setRow_8 : decode cX1_setRow 8 = .ok (.iload_n 3, 1) := by decide +kernel
theorem dX1_setRow_9 : decode cX1_setRow 9 = .ok (.invokestatic 28, 3) := by decide +kernel
theorem dX1_setRow_12 : decode cX1_setRow 12 = .ok (.ifCond .ne 4, 3) := by decide +kernel
theorem dX1_setRow_15 : decode cX1_setRow 15 = .ok (.return_, 1) := by decide +kernel
theorem dX1_setRow_16 : decode cX1_setRow 16 = .ok (.aload_n 0, 1) := by decide +kernel
theorem dX1_setRow_17 : decode cX1_setRow 17 = .ok (.getfield 9, 3) := by decide +kernel
theorem dX1_setRow_20 : decode cX1_setRow 20 = .ok (.iconst 4, 1) := by decide +kernel
theorem dX1_setRow_21 : decode cX1_setRow 21 = .ok (.iload_n 1, 1) := by decide +kernel
theorem dX1_setRow_22 : decode cX1_setRow 22 = .ok (.imul, 1) := by decide +kernel
theorem dX1_setRow_23 : decode cX1_setRow 23 = .ok (.iload_n 2, 1) := by decide +kernel
theorem dX1_setRow_24 : decode cX1_setRow 24 = .ok (.iadd, 1) := by decide +kernel
theorem dX1_setRow_25 : decode cX1_setRow 25 = .ok (.iload_n 3, 1) := by decide +kernel
theorem dX1_setRow_26 : decode cX1_setRow 26 = .ok (.iastore, 1) := by decide +kernel
theorem dX1_setRow_27 : decode cX1_setRow 27 = .ok (.iload_n 3, 1) := by decide +kernel
theorem dX1_setRow_28 : decode cX1_setRow 28 = .ok (.istore 4, 2) := by decide +kernel
theorem dX1_setRow_30 : decode cX1_setRow 30 = .ok (.iconst 3, 1) := by decide +kernel
theorem dX1_setRow_31 : decode cX1_setRow 31 = .ok (.istore 5, 2) := by decide +kernel
theorem dX1_setRow_33 : decode cX1_setRow 33 = .ok (.iload 5, 2) := by decide +kernel
theorem dX1_setRow_35 : decode cX1_setRow 35 = .ok (.ifCond .lt 29, 3) := by decide +kernel
theorem dX1_setRow_38 : decode cX1_setRow 38 = .ok (.aload_n 0, 1) := by decide +kernel
theorem dX1_setRow_39 : decode cX1_setRow 39 = .ok (.iload_n 1, 1) := by decide +kernel
theorem dX1_setRow_40 : decode cX1_setRow 40 = .ok (.iload_n 2, 1) := by decide +kernel
theorem dX1_setRow_41 : decode cX1_setRow 41 = .ok (.iload 4, 2) := by decide +kernel
theorem dX1_setRow_43 : decode cX1_setRow 43 = .ok (.bipush 10, 2) := by decide +kernel
theorem dX1_setRow_45 : decode cX1_setRow 45 = .ok (.irem, 1) := by decide +kernel
theorem dX1_setRow_46 : decode cX1_setRow 46 = .ok (.iload 5, 2) := by decide +kernel
theorem dX1_setRow_48 : decode cX1_setRow 48 = .ok (.invokevirtual 32, 3) := by decide +kernel
theorem dX1_setRow_51 : decode cX1_setRow 51 = .ok (.iload 4, 2) := by decide +kernel
theorem dX1_setRow_53 : decode cX1_setRow 53 = .ok (.bipush 10, 2) := by decide +kernel
theorem dX1_setRow_55 : decode cX1_setRow 55 = .ok (.idiv, 1) := by decide +kernel
theorem dX1_setRow_56 : decode cX1_setRow 56 = .ok (.istore 4, 2) := by decide +kernel
theorem dX1_setRow_58 : decode cX1_setRow 58 = .ok (.iinc 5 (-1), 3) := by decide +kernel
theorem dX1_setRow_61 : decode cX1_setRow 61 = .ok (.goto (-28), 3) := by decide +kernel
theorem dX1_setRow_64 : decode cX1_setRow 64 = .ok (.return_, 1) := by decide +kernel
theorem dX1_setRank_0 : decode cX1_setRank 0 = .ok (.iload_n 1, 1) := by decide +kernel
theorem dX1_setRank_1 : decode cX1_setRank 1 = .ok (.iload_n 2, 1) := by decide +kernel
theorem dX1_setRank_2 : decode cX1_setRank 2 = .ok (.invokestatic 24, 3) := by decide +kernel
theorem dX1_setRank_5 : decode cX1_setRank 5 = .ok (.ifCond .eq 28, 3) := by decide +kernel
theorem dX1_setRank_8 : decode cX1_setRank 8 = .ok (.iload_n 1, 1) := by decide +kernel
theorem dX1_setRank_9 : decode cX1_setRank 9 = .ok (.iload_n 3, 1) := by decide +kernel
theorem dX1_setRank_10 : decode cX1_setRank 10 = .ok (.invokestatic 24, 3) := by decide +kernel
theorem dX1_setRank_13 : decode cX1_setRank 13 = .ok (.ifCond .eq 20, 3) := by decide +kernel
theorem dX1_setRank_16 : decode cX1_setRank 16 = .ok (.aload_n 0, 1) := by decide +kernel
theorem dX1_setRank_17 : decode cX1_setRank 17 = .ok (.getfield 15, 3) := by decide +kernel
theorem dX1_setRank_20 : decode cX1_setRank 20 = .ok (.bipush 16, 2) := by decide +kernel
theorem dX1_setRank_22 : decode cX1_setRank 22 = .ok (.iload_n 1, 1) := by decide +kernel
theorem dX1_setRank_23 : decode cX1_setRank 23 = .ok (.imul, 1) := by decide +kernel
theorem dX1_setRank_24 : decode cX1_setRank 24 = .ok (.iconst 4, 1) := by decide +kernel
theorem dX1_setRank_25 : decode cX1_setRank 25 = .ok (.iload_n 2, 1) := by decide +kernel
theorem dX1_setRank_26 : decode cX1_setRank 26 = .ok (.imul, 1) := by decide +kernel
theorem dX1_setRank_27 : decode cX1_setRank 27 = .ok (.iadd, 1) := by decide +kernel
theorem dX1_setRank_28 : decode cX1_setRank 28 = .ok (.iload_n 3, 1) := by decide +kernel
theorem dX1_setRank_29 : decode cX1_setRank 29 = .ok (.iadd, 1) := by decide +kernel
theorem dX1_setRank_30 : decode cX1_setRank 30 = .ok (.iload 4, 2) := by decide +kernel
theorem dX1_setRank_32 : decode cX1_setRank 32 = .ok (.iastore, 1) := by decide +kernel
theorem dX1_setRank_33 : decode cX1_setRank 33 = .ok (.return_, 1) := by decide +kernel
theorem dX1_rankOf_0 : decode cX1_rankOf 0 = .ok (.iload_n 1, 1) := by decide +kernel
theorem dX1_rankOf_1 : decode cX1_rankOf 1 = .ok (.iload_n 2, 1) := by decide +kernel
theorem dX1_rankOf_2 : decode cX1_rankOf 2 = .ok (.invokestatic 24, 3) := by decide +kernel
theorem dX1_rankOf_5 : decode cX1_rankOf 5 = .ok (.ifCond .eq 29, 3) := by decide +kernel
theorem dX1_rankOf_8 : decode cX1_rankOf 8 = .ok (.iload_n 1, 1) := by decide +kernel
theorem dX1_rankOf_9 : decode cX1_rankOf 9 = .ok (.iload_n 3, 1) := by decide +kernel
theorem dX1_rankOf_10 : decode cX1_rankOf 10 = .ok (.invokestatic 24, 3) := by decide +kernel
theorem dX1_rankOf_13 : decode cX1_rankOf 13 = .ok (.ifCond .eq 21, 3) := by decide +kernel
theorem dX1_rankOf_16 : decode cX1_rankOf 16 = .ok (.aload_n 0, 1) := by decide +kernel
theorem dX1_rankOf_17 : decode cX1_rankOf 17 = .ok (.getfield 15, 3) := by decide +kernel
theorem dX1_rankOf_20 : decode cX1_rankOf 20 = .ok (.bipush 16, 2) := by decide +kernel
theorem dX1_rankOf_22 : decode cX1_rankOf 22 = .ok (.iload_n 1, 1) := by decide +kernel
theorem dX1_rankOf_23 : decode cX1_rankOf 23 = .ok (.imul, 1) := by decide +kernel
theorem dX1_rankOf_24 : decode cX1_rankOf 24 = .ok (.iconst 4, 1) := by decide +kernel
theorem dX1_rankOf_25 : decode cX1_rankOf 25 = .ok (.iload_n 2, 1) := by decide +kernel
theorem dX1_rankOf_26 : decode cX1_rankOf 26 = .ok (.imul, 1) := by decide +kernel
theorem dX1_rankOf_27 : decode cX1_rankOf 27 = .ok (.iadd, 1) := by decide +kernel
theorem dX1_rankOf_28 : decode cX1_rankOf 28 = .ok (.iload_n 3, 1) := by decide +kernel
theorem dX1_rankOf_29 : decode cX1_rankOf 29 = .ok (.iadd, 1) := by decide +kernel
theorem dX1_rankOf_30 : decode cX1_rankOf 30 = .ok (.iaload, 1) := by decide +kernel
theorem dX1_rankOf_31 : decode cX1_rankOf 31 = .ok (.goto 4, 3) := by decide +kernel
theorem dX1_rankOf_34 : decode cX1_rankOf 34 = .ok (.iconst 4, 1) := by decide +kernel
theorem dX1_rankOf_35 : decode cX1_rankOf 35 = .ok (.ireturn, 1) := by decide +kernel
theorem dX1_partnerIn_0 : decode cX1_partnerIn 0 = .ok (.iload_n 1, 1) := by decide +kernel
theorem dX1_partnerIn_1 : decode cX1_partnerIn 1 = .ok (.ifCond .ne 9, 3) := by decide +kernel
theorem dX1_partnerIn_4 : decode cX1_partnerIn 4 = .ok (.iload_n 0, 1) := by decide +kernel
theorem dX1_partnerIn_5 : decode cX1_partnerIn 5 = .ok (.iload_n 2, 1) := by decide +kernel
theorem dX1_partnerIn_6 : decode cX1_partnerIn 6 = .ok (.invokestatic 36, 3) := by decide +kernel
theorem dX1_partnerIn_9 : decode cX1_partnerIn 9 = .ok (.ireturn, 1) := by decide +kernel
theorem dX1_partnerIn_10 : decode cX1_partnerIn 10 = .ok (.iconst 0, 1) := by decide +kernel
theorem dX1_partnerIn_11 : decode cX1_partnerIn 11 = .ok (.istore_n 3, 1) := by decide +kernel
theorem dX1_partnerIn_12 : decode cX1_partnerIn 12 = .ok (.iload_n 3, 1) := by decide +kernel
theorem dX1_partnerIn_13 : decode cX1_partnerIn 13 = .ok (.iconst 4, 1) := by decide +kernel
theorem dX1_partnerIn_14 : decode cX1_partnerIn 14 = .ok (.if_icmp .ge 20, 3) := by decide +kernel
theorem dX1_partnerIn_17 : decode cX1_partnerIn 17 = .ok (.iload_n 0, 1) := by decide +kernel
theorem dX1_partnerIn_18 : decode cX1_partnerIn 18 = .ok (.iload_n 3, 1) := by decide +kernel
theorem dX1_partnerIn_19 : decode cX1_partnerIn 19 = .ok (.invokestatic 36, 3) := by decide +kernel
theorem dX1_partnerIn_22 : decode cX1_partnerIn 22 = .ok (.iload_n 2, 1) := by decide +kernel
theorem dX1_partnerIn_23 : decode cX1_partnerIn 23 = .ok (.if_icmp .ne 5, 3) := by decide +kernel
theorem dX1_partnerIn_26 : decode cX1_partnerIn 26 = .ok (.iload_n 3, 1) := by decide +kernel
theorem dX1_partnerIn_27 : decode cX1_partnerIn 27 = .ok (.ireturn, 1) := by decide +kernel
theorem dX1_partnerIn_28 : decode cX1_partnerIn 28 = .ok (.iinc 3 1, 3) := by decide +kernel
theorem dX1_partnerIn_31 : decode cX1_partnerIn 31 = .ok (.goto (-19), 3) := by decide +kernel
theorem dX1_partnerIn_34 : decode cX1_partnerIn 34 = .ok (.bipush (-6), 2) := by decide +kernel
theorem dX1_partnerIn_36 : decode cX1_partnerIn 36 = .ok (.ireturn, 1) := by decide +kernel
theorem dX1_chosenBy_0 : decode cX1_chosenBy 0 = .ok (.iload_n 0, 1) := by decide +kernel
theorem dX1_chosenBy_1 : decode cX1_chosenBy 1 = .ok (.iconst 2, 1) := by decide +kernel
theorem dX1_chosenBy_2 : decode cX1_chosenBy 2 = .ok (.iload_n 1, 1) := by decide +kernel
theorem dX1_chosenBy_3 : decode cX1_chosenBy 3 = .ok (.imul, 1) := by decide +kernel
theorem dX1_chosenBy_4 : decode cX1_chosenBy 4 = .ok (.ishr, 1) := by decide +kernel
theorem dX1_chosenBy_5 : decode cX1_chosenBy 5 = .ok (.iconst 3, 1) := by decide +kernel
theorem dX1_chosenBy_6 : decode cX1_chosenBy 6 = .ok (.iand, 1) := by decide +kernel
theorem dX1_chosenBy_7 : decode cX1_chosenBy 7 = .ok (.ireturn, 1) := by decide +kernel
theorem dX1_countSteady_0 : decode cX1_countSteady 0 = .ok (.iconst 0, 1) := by decide +kernel
theorem dX1_countSteady_1 : decode cX1_countSteady 1 = .ok (.istore_n 1, 1) := by decide +kernel
theorem dX1_countSteady_2 : decode cX1_countSteady 2 = .ok (.iconst 0, 1) := by decide +kernel
theorem dX1_countSteady_3 : decode cX1_countSteady 3 = .ok (.istore_n 2, 1) := by decide +kernel
theorem dX1_countSteady_4 : decode cX1_countSteady 4 = .ok (.iload_n 2, 1) := by decide +kernel
theorem dX1_countSteady_5 : decode cX1_countSteady 5 = .ok (.sipush 256, 3) := by decide +kernel
theorem dX1_countSteady_8 : decode cX1_countSteady 8 = .ok (.if_icmp .ge 20, 3) := by decide +kernel
theorem dX1_countSteady_11 : decode cX1_countSteady 11 = .ok (.aload_n 0, 1) := by decide +kernel
theorem dX1_countSteady_12 : decode cX1_countSteady 12 = .ok (.iload_n 2, 1) := by decide +kernel
theorem dX1_countSteady_13 : decode cX1_countSteady 13 = .ok (.invokevirtual 40, 3) := by decide +kernel
theorem dX1_countSteady_16 : decode cX1_countSteady 16 = .ok (.ifCond .eq 6, 3) := by decide +kernel
theorem dX1_countSteady_19 : decode cX1_countSteady 19 = .ok (.iinc 1 1, 3) := by decide +kernel
theorem dX1_countSteady_22 : decode cX1_countSteady 22 = .ok (.iinc 2 1, 3) := by decide +kernel
theorem dX1_countSteady_25 : decode cX1_countSteady 25 = .ok (.goto (-21), 3) := by decide +kernel
theorem dX1_countSteady_28 : decode cX1_countSteady 28 = .ok (.iload_n 1, 1) := by decide +kernel
theorem dX1_countSteady_29 : decode cX1_countSteady 29 = .ok (.ireturn, 1) := by decide +kernel
theorem dX1_bestSteady_0 : decode cX1_bestSteady 0 = .ok (.sipush 228, 3) := by decide +kernel
theorem dX1_bestSteady_3 : decode cX1_bestSteady 3 = .ok (.istore_n 2, 1) := by decide +kernel
theorem dX1_bestSteady_4 : decode cX1_bestSteady 4 = .ok (.bipush 16, 2) := by decide +kernel
theorem dX1_bestSteady_6 : decode cX1_bestSteady 6 = .ok (.istore_n 3, 1) := by decide +kernel
theorem dX1_bestSteady_7 : decode cX1_bestSteady 7 = .ok (.iconst 0, 1) := by decide +kernel
theorem dX1_bestSteady_8 : decode cX1_bestSteady 8 = .ok (.istore 4, 2) := by decide +kernel
theorem dX1_bestSteady_10 : decode cX1_bestSteady 10 = .ok (.iload 4, 2) := by decide +kernel
theorem dX1_bestSteady_12 : decode cX1_bestSteady 12 = .ok (.sipush 256, 3) := by decide +kernel
theorem dX1_bestSteady_15 : decode cX1_bestSteady 15 = .ok (.if_icmp .ge 40, 3) := by decide +kernel
theorem dX1_bestSteady_18 : decode cX1_bestSteady 18 = .ok (.aload_n 0, 1) := by decide +kernel
theorem dX1_bestSteady_19 : decode cX1_bestSteady 19 = .ok (.iload 4, 2) := by decide +kernel
theorem dX1_bestSteady_21 : decode cX1_bestSteady 21 = .ok (.invokevirtual 40, 3) := by decide +kernel
theorem dX1_bestSteady_24 : decode cX1_bestSteady 24 = .ok (.ifCond .eq 25, 3) := by decide +kernel
theorem dX1_bestSteady_27 : decode cX1_bestSteady 27 = .ok (.aload_n 0, 1) := by decide +kernel
theorem dX1_bestSteady_28 : decode cX1_bestSteady 28 = .ok (.iload 4, 2) := by decide +kernel
theorem dX1_bestSteady_30 : decode cX1_bestSteady 30 = .ok (.iload_n 1, 1) := by decide +kernel
theorem dX1_bestSteady_31 : decode cX1_bestSteady 31 = .ok (.invokevirtual 43, 3) := by decide +kernel
theorem dX1_bestSteady_34 : decode cX1_bestSteady 34 = .ok (.iload_n 3, 1) := by decide +kernel
theorem dX1_bestSteady_35 : decode cX1_bestSteady 35 = .ok (.if_icmp .ge 14, 3) := by decide +kernel
theorem dX1_bestSteady_38 : decode cX1_bestSteady 38 = .ok (.iload 4, 2) := by decide +kernel
theorem dX1_bestSteady_40 : decode cX1_bestSteady 40 = .ok (.istore_n 2, 1) := by decide +kernel
theorem dX1_bestSteady_41 : decode cX1_bestSteady 41 = .ok (.aload_n 0, 1) := by decide +kernel
theorem dX1_bestSteady_42 : decode cX1_bestSteady 42 = .ok (.iload 4, 2) := by decide +kernel
theorem dX1_bestSteady_44 : decode cX1_bestSteady 44 = .ok (.iload_n 1, 1) := by decide +kernel
theorem dX1_bestSteady_45 : decode cX1_bestSteady 45 = .ok (.invokevirtual 43, 3) := by decide +kernel
theorem dX1_bestSteady_48 : decode cX1_bestSteady 48 = .ok (.istore_n 3, 1) := by decide +kernel
theorem dX1_bestSteady_49 : decode cX1_bestSteady 49 = .ok (.iinc 4 1, 3) := by decide +kernel
theorem dX1_bestSteady_52 : decode cX1_bestSteady 52 = .ok (.goto (-42), 3) := by decide +kernel
theorem dX1_bestSteady_55 : decode cX1_bestSteady 55 = .ok (.iload_n 2, 1) := by decide +kernel
theorem dX1_bestSteady_56 : decode cX1_bestSteady 56 = .ok (.ireturn, 1) := by decide +kernel
theorem dX1_sumOfRanks_0 : decode cX1_sumOfRanks 0 = .ok (.iconst 0, 1) := by decide +kernel
theorem dX1_sumOfRanks_1 : decode cX1_sumOfRanks 1 = .ok (.istore_n 3, 1) := by decide +kernel
theorem dX1_sumOfRanks_2 : decode cX1_sumOfRanks 2 = .ok (.iconst 0, 1) := by decide +kernel
theorem dX1_sumOfRanks_3 : decode cX1_sumOfRanks 3 = .ok (.istore 4, 2) := by decide +kernel
theorem dX1_sumOfRanks_5 : decode cX1_sumOfRanks 5 = .ok (.iload 4, 2) := by decide +kernel
theorem dX1_sumOfRanks_7 : decode cX1_sumOfRanks 7 = .ok (.iconst 4, 1) := by decide +kernel
theorem dX1_sumOfRanks_8 : decode cX1_sumOfRanks 8 = .ok (.if_icmp .ge 26, 3) := by decide +kernel
theorem dX1_sumOfRanks_11 : decode cX1_sumOfRanks 11 = .ok (.iload_n 3, 1) := by decide +kernel
theorem dX1_sumOfRanks_12 : decode cX1_sumOfRanks 12 = .ok (.aload_n 0, 1) := by decide +kernel
theorem dX1_sumOfRanks_13 : decode cX1_sumOfRanks 13 = .ok (.iload_n 2, 1) := by decide +kernel
theorem dX1_sumOfRanks_14 : decode cX1_sumOfRanks 14 = .ok (.iload 4, 2) := by decide +kernel
theorem dX1_sumOfRanks_16 : decode cX1_sumOfRanks 16 = .ok (.iload_n 1, 1) := by decide +kernel
theorem dX1_sumOfRanks_17 : decode cX1_sumOfRanks 17 = .ok (.iload_n 2, 1) := by decide +kernel
theorem dX1_sumOfRanks_18 : decode cX1_sumOfRanks 18 = .ok (.iload 4, 2) := by decide +kernel
theorem dX1_sumOfRanks_20 : decode cX1_sumOfRanks 20 = .ok (.invokestatic 46, 3) := by decide +kernel
theorem dX1_sumOfRanks_23 : decode cX1_sumOfRanks 23 = .ok (.invokevirtual 50, 3) := by decide +kernel
theorem dX1_sumOfRanks_26 : decode cX1_sumOfRanks 26 = .ok (.iadd, 1) := by decide +kernel
theorem dX1_sumOfRanks_27 : decode cX1_sumOfRanks 27 = .ok (.istore_n 3, 1) := by decide +kernel
theorem dX1_sumOfRanks_28 : decode cX1_sumOfRanks 28 = .ok (.iinc 4 1, 3) := by decide +kernel
theorem dX1_sumOfRanks_31 : decode cX1_sumOfRanks 31 = .ok (.goto (-26), 3) := by decide +kernel
theorem dX1_sumOfRanks_34 : decode cX1_sumOfRanks 34 = .ok (.iload_n 3, 1) := by decide +kernel
theorem dX1_sumOfRanks_35 : decode cX1_sumOfRanks 35 = .ok (.ireturn, 1) := by decide +kernel
theorem dX1_isSteady_0 : decode cX1_isSteady 0 = .ok (.iload_n 1, 1) := by decide +kernel
theorem dX1_isSteady_1 : decode cX1_isSteady 1 = .ok (.invokestatic 53, 3) := by decide +kernel
theorem dX1_isSteady_4 : decode cX1_isSteady 4 = .ok (.ifCond .ne 5, 3) := by decide +kernel
theorem dX1_isSteady_7 : decode cX1_isSteady 7 = .ok (.iconst 0, 1) := by decide +kernel
theorem dX1_isSteady_8 : decode cX1_isSteady 8 = .ok (.ireturn, 1) := by decide +kernel
theorem dX1_isSteady_9 : decode cX1_isSteady 9 = .ok (.iconst 0, 1) := by decide +kernel
theorem dX1_isSteady_10 : decode cX1_isSteady 10 = .ok (.istore_n 2, 1) := by decide +kernel
theorem dX1_isSteady_11 : decode cX1_isSteady 11 = .ok (.iload_n 2, 1) := by decide +kernel
theorem dX1_isSteady_12 : decode cX1_isSteady 12 = .ok (.iconst 4, 1) := by decide +kernel
theorem dX1_isSteady_13 : decode cX1_isSteady 13 = .ok (.if_icmp .ge 46, 3) := by decide +kernel
theorem dX1_isSteady_16 : decode cX1_isSteady 16 = .ok (.iconst 0, 1) := by decide +kernel
theorem dX1_isSteady_17 : decode cX1_isSteady 17 = .ok (.istore_n 3, 1) := by decide +kernel
theorem dX1_isSteady_18 : decode cX1_isSteady 18 = .ok (.iload_n 3, 1) := by decide +kernel
theorem dX1_isSteady_19 : decode cX1_isSteady 19 = .ok (.iconst 4, 1) := by decide +kernel
theorem dX1_isSteady_20 : decode cX1_isSteady 20 = .ok (.if_icmp .ge 33, 3) := by decide +kernel
theorem dX1_isSteady_23 : decode cX1_isSteady 23 = .ok (.aload_n 0, 1) := by decide +kernel
theorem dX1_isSteady_24 : decode cX1_isSteady 24 = .ok (.iload_n 1, 1) := by decide +kernel
theorem dX1_isSteady_25 : decode cX1_isSteady 25 = .ok (.iconst 0, 1) := by decide +kernel
theorem dX1_isSteady_26 : decode cX1_isSteady 26 = .ok (.iload_n 2, 1) := by decide +kernel
theorem dX1_isSteady_27 : decode cX1_isSteady 27 = .ok (.iload_n 3, 1) := by decide +kernel
theorem dX1_isSteady_28 : decode cX1_isSteady 28 = .ok (.invokevirtual 56, 3) := by decide +kernel
theorem dX1_isSteady_31 : decode cX1_isSteady 31 = .ok (.ifCond .eq 16, 3) := by decide +kernel
theorem dX1_isSteady_34 : decode cX1_isSteady 34 = .ok (.aload_n 0, 1) := by decide +kernel
theorem dX1_isSteady_35 : decode cX1_isSteady 35 = .ok (.iload_n 1, 1) := by decide +kernel
theorem dX1_isSteady_36 : decode cX1_isSteady 36 = .ok (.iconst 1, 1) := by decide +kernel
theorem dX1_isSteady_37 : decode cX1_isSteady 37 = .ok (.iload_n 3, 1) := by decide +kernel
theorem dX1_isSteady_38 : decode cX1_isSteady 38 = .ok (.iload_n 2, 1) := by decide +kernel
theorem dX1_isSteady_39 : decode cX1_isSteady 39 = .ok (.invokevirtual 56, 3) := by decide +kernel
theorem dX1_isSteady_42 : decode cX1_isSteady 42 = .ok (.ifCond .eq 5, 3) := by decide +kernel
theorem dX1_isSteady_45 : decode cX1_isSteady 45 = .ok (.iconst 0, 1) := by decide +kernel
theorem dX1_isSteady_46 : decode cX1_isSteady 46 = .ok (.ireturn, 1) := by decide +kernel
theorem dX1_isSteady_47 : decode cX1_isSteady 47 = .ok (.iinc 3 1, 3) := by decide +kernel
theorem dX1_isSteady_50 : decode cX1_isSteady 50 = .ok (.goto (-32), 3) := by decide +kernel
theorem dX1_isSteady_53 : decode cX1_isSteady 53 = .ok (.iinc 2 1, 3) := by decide +kernel
theorem dX1_isSteady_56 : decode cX1_isSteady 56 = .ok (.goto (-45), 3) := by decide +kernel
theorem dX1_isSteady_59 : decode cX1_isSteady 59 = .ok (.iconst 1, 1) := by decide +kernel
theorem dX1_isSteady_60 : decode cX1_isSteady 60 = .ok (.ireturn, 1) := by decide +kernel
theorem dX1_hasEachOnce_0 : decode cX1_hasEachOnce 0 = .ok (.iconst 0, 1) := by decide +kernel
theorem dX1_hasEachOnce_1 : decode cX1_hasEachOnce 1 = .ok (.istore_n 1, 1) := by decide +kernel
theorem dX1_hasEachOnce_2 : decode cX1_hasEachOnce 2 = .ok (.iconst 0, 1) := by decide +kernel
theorem dX1_hasEachOnce_3 : decode cX1_hasEachOnce 3 = .ok (.istore_n 2, 1) := by decide +kernel
theorem dX1_hasEachOnce_4 : decode cX1_hasEachOnce 4 = .ok (.iload_n 2, 1) := by decide +kernel
theorem dX1_hasEachOnce_5 : decode cX1_hasEachOnce 5 = .ok (.iconst 4, 1) := by decide +kernel
theorem dX1_hasEachOnce_6 : decode cX1_hasEachOnce 6 = .ok (.if_icmp .ge 19, 3) := by decide +kernel
theorem dX1_hasEachOnce_9 : decode cX1_hasEachOnce 9 = .ok (.iload_n 1, 1) := by decide +kernel
theorem dX1_hasEachOnce_10 : decode cX1_hasEachOnce 10 = .ok (.iconst 1, 1) := by decide +kernel
theorem dX1_hasEachOnce_11 : decode cX1_hasEachOnce 11 = .ok (.iload_n 0, 1) := by decide +kernel
theorem dX1_hasEachOnce_12 : decode cX1_hasEachOnce 12 = .ok (.iload_n 2, 1) := by decide +kernel
theorem dX1_hasEachOnce_13 : decode cX1_hasEachOnce 13 = .ok (.invokestatic 36, 3) := by decide +kernel
theorem dX1_hasEachOnce_16 : decode cX1_hasEachOnce 16 = .ok (.ishl, 1) := by decide +kernel
theorem dX1_hasEachOnce_17 : decode cX1_hasEachOnce 17 = .ok (.ior, 1) := by decide +kernel
theorem dX1_hasEachOnce_18 : decode cX1_hasEachOnce 18 = .ok (.istore_n 1, 1) := by decide +kernel
theorem dX1_hasEachOnce_19 : decode cX1_hasEachOnce 19 = .ok (.iinc 2 1, 3) := by decide +kernel
theorem dX1_hasEachOnce_22 : decode cX1_hasEachOnce 22 = .ok (.goto (-18), 3) := by decide +kernel
theorem dX1_hasEachOnce_25 : decode cX1_hasEachOnce 25 = .ok (.iload_n 1, 1) := by decide +kernel
theorem dX1_hasEachOnce_26 : decode cX1_hasEachOnce 26 = .ok (.bipush 15, 2) := by decide +kernel
theorem dX1_hasEachOnce_28 : decode cX1_hasEachOnce 28 = .ok (.if_icmp .ne 7, 3) := by decide +kernel
theorem dX1_hasEachOnce_31 : decode cX1_hasEachOnce 31 = .ok (.iconst 1, 1) := by decide +kernel
theorem dX1_hasEachOnce_32 : decode cX1_hasEachOnce 32 = .ok (.goto 4, 3) := by decide +kernel
theorem dX1_hasEachOnce_35 : decode cX1_hasEachOnce 35 = .ok (.iconst 0, 1) := by decide +kernel
theorem dX1_hasEachOnce_36 : decode cX1_hasEachOnce 36 = .ok (.ireturn, 1) := by decide +kernel
theorem dX1_prefers_0 : decode cX1_prefers 0 = .ok (.aload_n 0, 1) := by decide +kernel
theorem dX1_prefers_1 : decode cX1_prefers 1 = .ok (.iload_n 2, 1) := by decide +kernel
theorem dX1_prefers_2 : decode cX1_prefers 2 = .ok (.iload_n 3, 1) := by decide +kernel
theorem dX1_prefers_3 : decode cX1_prefers 3 = .ok (.iload 4, 2) := by decide +kernel
theorem dX1_prefers_5 : decode cX1_prefers 5 = .ok (.invokevirtual 50, 3) := by decide +kernel
theorem dX1_prefers_8 : decode cX1_prefers 8 = .ok (.aload_n 0, 1) := by decide +kernel
theorem dX1_prefers_9 : decode cX1_prefers 9 = .ok (.iload_n 2, 1) := by decide +kernel
theorem dX1_prefers_10 : decode cX1_prefers 10 = .ok (.iload_n 3, 1) := by decide +kernel
theorem dX1_prefers_11 : decode cX1_prefers 11 = .ok (.iload_n 1, 1) := by decide +kernel
theorem dX1_prefers_12 : decode cX1_prefers 12 = .ok (.iload_n 2, 1) := by decide +kernel
theorem dX1_prefers_13 : decode cX1_prefers 13 = .ok (.iload_n 3, 1) := by decide +kernel
theorem dX1_prefers_14 : decode cX1_prefers 14 = .ok (.invokestatic 46, 3) := by decide +kernel
theorem dX1_prefers_17 : decode cX1_prefers 17 = .ok (.invokevirtual 50, 3) := by decide +kernel
theorem dX1_prefers_20 : decode cX1_prefers 20 = .ok (.if_icmp .ge 7, 3) := by decide +kernel
theorem dX1_prefers_23 : decode cX1_prefers 23 = .ok (.iconst 1, 1) := by decide +kernel
theorem dX1_prefers_24 : decode cX1_prefers 24 = .ok (.goto 4, 3) := by decide +kernel
theorem dX1_prefers_27 : decode cX1_prefers 27 = .ok (.iconst 0, 1) := by decide +kernel
theorem dX1_prefers_28 : decode cX1_prefers 28 = .ok (.ireturn, 1) := by decide +kernel
theorem dX2_init_0 : decode cX2_init 0 = .ok (.aload_n 0, 1) := by decide +kernel
theorem dX2_init_1 : decode cX2_init 1 = .ok (.invokespecial 3, 3) := by decide +kernel
theorem dX2_init_4 : decode cX2_init 4 = .ok (.aload_n 0, 1) := by decide +kernel
theorem dX2_init_5 : decode cX2_init 5 = .ok (.bipush 49, 2) := by decide +kernel
theorem dX2_init_7 : decode cX2_init 7 = .ok (.newarray .int, 2) := by decide +kernel
theorem dX2_init_9 : decode cX2_init 9 = .ok (.putfield 9, 3) := by decide +kernel
theorem dX2_init_12 : decode cX2_init 12 = .ok (.aload_n 0, 1) := by decide +kernel
theorem dX2_init_13 : decode cX2_init 13 = .ok (.bipush 49, 2) := by decide +kernel
theorem dX2_init_15 : decode cX2_init 15 = .ok (.newarray .int, 2) := by decide +kernel
theorem dX2_init_17 : decode cX2_init 17 = .ok (.putfield 15, 3) := by decide +kernel
theorem dX2_init_20 : decode cX2_init 20 = .ok (.aload_n 0, 1) := by decide +kernel
theorem dX2_init_21 : decode cX2_init 21 = .ok (.bipush 7, 2) := by decide +kernel
theorem dX2_init_23 : decode cX2_init 23 = .ok (.newarray .int, 2) := by decide +kernel
theorem dX2_init_25 : decode cX2_init 25 = .ok (.putfield 18, 3) := by decide +kernel
theorem dX2_init_28 : decode cX2_init 28 = .ok (.aload_n 0, 1) := by decide +kernel
theorem dX2_init_29 : decode cX2_init 29 = .ok (.bipush 7, 2) := by decide +kernel
theorem dX2_init_31 : decode cX2_init 31 = .ok (.newarray .int, 2) := by decide +kernel
theorem dX2_init_33 : decode cX2_init 33 = .ok (.putfield 21, 3) := by decide +kernel
theorem dX2_init_36 : decode cX2_init 36 = .ok (.aload_n 0, 1) := by decide +kernel
theorem dX2_init_37 : decode cX2_init 37 = .ok (.iconst 0, 1) := by decide +kernel
theorem dX2_init_38 : decode cX2_init 38 = .ok (.putfield 24, 3) := by decide +kernel
theorem dX2_init_41 : decode cX2_init 41 = .ok (.aload_n 0, 1) := by decide +kernel
theorem dX2_init_42 : decode cX2_init 42 = .ok (.getfield 9, 3) := by decide +kernel
theorem dX2_init_45 : decode cX2_init 45 = .ok (.bipush (-6), 2) := by decide +kernel
theorem dX2_init_47 : decode cX2_init 47 = .ok (.invokestatic 28, 3) := by decide +kernel
theorem dX2_init_50 : decode cX2_init 50 = .ok (.aload_n 0, 1) := by decide +kernel
theorem dX2_init_51 : decode cX2_init 51 = .ok (.getfield 21, 3) := by decide +kernel
theorem dX2_init_54 : decode cX2_init 54 = .ok (.iconst 5, 1) := by decide +kernel
theorem dX2_init_55 : decode cX2_init 55 = .ok (.invokestatic 28, 3) := by decide +kernel
theorem dX2_init_58 : decode cX2_init 58 = .ok (.iconst 0, 1) := by decide +kernel
theorem dX2_init_59 : decode cX2_init 59 = .ok (.istore_n 1, 1) := by decide +kernel
theorem dX2_init_60 : decode cX2_init 60 = .ok (.iload_n 1, 1) := by decide +kernel
theorem dX2_init_61 : decode cX2_init 61 = .ok (.bipush 7, 2) := by decide +kernel
theorem dX2_init_63 : decode cX2_init 63 = .ok (.if_icmp .ge 16, 3) := by decide +kernel
theorem dX2_init_66 : decode cX2_init 66 = .ok (.aload_n 0, 1) := by decide +kernel
theorem dX2_init_67 : decode cX2_init 67 = .ok (.getfield 18, 3) := by decide +kernel
theorem dX2_init_70 : decode cX2_init 70 = .ok (.iload_n 1, 1) := by decide +kernel
theorem dX2_init_71 : decode cX2_init 71 = .ok (.iload_n 1, 1) := by decide +kernel
theorem dX2_init_72 : decode cX2_init 72 = .ok (.iastore, 1) := by decide +kernel
theorem dX2_init_73 : decode cX2_init 73 = .ok (.iinc 1 1, 3) := by decide +kernel
theorem dX2_init_76 : decode cX2_init 76 = .ok (.goto (-16), 3) := by decide +kernel
theorem dX2_init_79 : decode cX2_init 79 = .ok (.return_, 1) := by decide +kernel
theorem dX2_copyFrom_0 : decode cX2_copyFrom 0 = .ok (.aload_n 1, 1) := by decide +kernel
theorem dX2_copyFrom_1 : decode cX2_copyFrom 1 = .ok (.getfield 9, 3) := by decide +kernel
theorem dX2_copyFrom_4 : decode cX2_copyFrom 4 = .ok (.iconst 0, 1) := by decide +kernel
theorem dX2_copyFrom_5 : decode cX2_copyFrom 5 = .ok (.aload_n 0, 1) := by decide +kernel
theorem dX2_copyFrom_6 : decode cX2_copyFrom 6 = .ok (.getfield 9, 3) := by decide +kernel
theorem dX2_copyFrom_9 : decode cX2_copyFrom 9 = .ok (.iconst 0, 1) := by decide +kernel
theorem dX2_copyFrom_10 : decode cX2_copyFrom 10 = .ok (.bipush 49, 2) := by decide +kernel
theorem dX2_copyFrom_12 : decode cX2_copyFrom 12 = .ok (.invokestatic 34, 3) := by decide +kernel
theorem dX2_copyFrom_15 : decode cX2_copyFrom 15 = .ok (.aload_n 1, 1) := by decide +kernel
theorem dX2_copyFrom_16 : decode cX2_copyFrom 16 = .ok (.getfield 15, 3) := by decide +kernel
theorem dX2_copyFrom_19 : decode cX2_copyFrom 19 = .ok (.iconst 0, 1) := by decide +kernel
theorem dX2_copyFrom_20 : decode cX2_copyFrom 20 = .ok (.aload_n 0, 1) := by decide +kernel
theorem dX2_copyFrom_21 : decode cX2_copyFrom 21 = .ok (.getfield 15, 3) := by decide +kernel
theorem dX2_copyFrom_24 : decode cX2_copyFrom 24 = .ok (.iconst 0, 1) := by decide +kernel
theorem dX2_copyFrom_25 : decode cX2_copyFrom 25 = .ok (.bipush 49, 2) := by decide +kernel
theorem dX2_copyFrom_27 : decode cX2_copyFrom 27 = .ok (.invokestatic 34, 3) := by decide +kernel
theorem dX2_copyFrom_30 : decode cX2_copyFrom 30 = .ok (.aload_n 1, 1) := by decide +kernel
theorem dX2_copyFrom_31 : decode cX2_copyFrom 31 = .ok (.getfield 18, 3) := by decide +kernel
theorem dX2_copyFrom_34 : decode cX2_copyFrom 34 = .ok (.iconst 0, 1) := by decide +kernel
theorem dX2_copyFrom_35 : decode cX2_copyFrom 35 = .ok (.aload_n 0, 1) := by decide +kernel
theorem dX2_copyFrom_36 : decode cX2_copyFrom 36 = .ok (.getfield 18, 3) := by decide +kernel
theorem dX2_copyFrom_39 : decode cX2_copyFrom 39 = .ok (.iconst 0, 1) := by decide +kernel
theorem dX2_copyFrom_40 : decode cX2_copyFrom 40 = .ok (.bipush 7, 2) := by decide +kernel
theorem dX2_copyFrom_42 : decode cX2_copyFrom 42 = .ok (.invokestatic 34, 3) := by decide +kernel
theorem dX2_copyFrom_45 : decode cX2_copyFrom 45 = .ok (.aload_n 1, 1) := by decide +kernel
theorem dX2_copyFrom_46 : decode cX2_copyFrom 46 = .ok (.getfield 21, 3) := by decide +kernel
theorem dX2_copyFrom_49 : decode cX2_copyFrom 49 = .ok (.iconst 0, 1) := by decide +kernel
theorem dX2_copyFrom_50 : decode cX2_copyFrom 50 = .ok (.aload_n 0, 1) := by decide +kernel
theorem dX2_copyFrom_51 : decode cX2_copyFrom 51 = .ok (.getfield 21, 3) := by decide +kernel
theorem dX2_copyFrom_54 : decode cX2_copyFrom 54 = .ok (.iconst 0, 1) := by decide +kernel
theorem dX2_copyFrom_55 : decode cX2_copyFrom 55 = .ok (.bipush 7, 2) := by decide +kernel
theorem dX2_copyFrom_57 : decode cX2_copyFrom 57 = .ok (.invokestatic 34, 3) := by decide +kernel
theorem dX2_copyFrom_60 : decode cX2_copyFrom 60 = .ok (.aload_n 0, 1) := by decide +kernel
theorem dX2_copyFrom_61 : decode cX2_copyFrom 61 = .ok (.aload_n 1, 1) := by decide +kernel
theorem dX2_copyFrom_62 : decode cX2_copyFrom 62 = .ok (.getfield 24, 3) := by decide +kernel
theorem dX2_copyFrom_65 : decode cX2_copyFrom 65 = .ok (.putfield 24, 3) := by decide +kernel
theorem dX2_copyFrom_68 : decode cX2_copyFrom 68 = .ok (.return_, 1) := by decide +kernel
theorem dX2_strengthBetween_0 : decode cX2_strengthBetween 0 = .ok (.iload_n 1, 1) := by decide +kernel
theorem dX2_strengthBetween_1 : decode cX2_strengthBetween 1 = .ok (.invokestatic 40, 3) := by decide +kernel
theorem dX2_strengthBetween_4 : decode cX2_strengthBetween 4 = .ok (.ifCond .eq 24, 3) := by decide +kernel
theorem dX2_strengthBetween_7 : decode cX2_strengthBetween 7 = .ok (.iload_n 2, 1) := by decide +kernel
theorem dX2_strengthBetween_8 : decode cX2_strengthBetween 8 = .ok (.invokestatic 40, 3) := by decide +kernel
theorem dX2_strengthBetween_11 : decode cX2_strengthBetween 11 = .ok (.ifCond .eq 17, 3) := by decide +kernel
theorem dX2_strengthBetween_14 : decode cX2_strengthBetween 14 = .ok (.aload_n 0, 1) := by decide +kernel
theorem dX2_strengthBetween_15 : decode cX2_strengthBetween 15 = .ok (.getfield 9, 3) := by decide +kernel
theorem dX2_strengthBetween_18 : decode cX2_strengthBetween 18 = .ok (.bipush 7, 2) := by decide +kernel
theorem dX2_strengthBetween_20 : decode cX2_strengthBetween 20 = .ok (.iload_n 1, 1) := by decide +kernel
theorem dX2_strengthBetween_21 : decode cX2_strengthBetween 21 = .ok (.imul, 1) := by decide +kernel
theorem dX2_strengthBetween_22 : decode cX2_strengthBetween 22 = .ok (.iload_n 2, 1) := by decide +kernel
theorem dX2_strengthBetween_23 : decode cX2_strengthBetween 23 = .ok (.iadd, 1) := by decide +kernel
theorem dX2_strengthBetween_24 : decode cX2_strengthBetween 24 = .ok (.iaload, 1) := by decide +kernel
theorem dX2_strengthBetween_25 : decode cX2_strengthBetween 25 = .ok (.goto 5, 3) := by decide +kernel
theorem dX2_strengthBetween_28 : decode cX2_strengthBetween 28 = .ok (.bipush (-6), 2) := by decide +kernel
theorem dX2_strengthBetween_30 : decode cX2_strengthBetween 30 = .ok (.ireturn, 1) := by decide +kernel
theorem dX2_setStrength_0 : decode cX2_setStrength 0 = .ok (.iload_n 1, 1) := by decide +kernel
theorem dX2_setStrength_1 : decode cX2_setStrength 1 = .ok (.iload_n 2, 1) := by decide +kernel
theorem dX2_setStrength_2 : decode cX2_setStrength 2 = .ok (.invokestatic 44, 3) := by decide +kernel
theorem dX2_setStrength_5 : decode cX2_setStrength 5 = .ok (.ifCond .eq 27, 3) := by decide +kernel
theorem dX2_setStrength_8 : decode cX2_setStrength 8 = .ok (.aload_n 0, 1) := by decide +kernel
theorem dX2_setStrength_9 : decode cX2_setStrength 9 = .ok (.getfield 9, 3) := by decide +kernel
theorem dX2_setStrength_12 : decode cX2_setStrength 12 = .ok (.bipush 7, 2) := by decide +kernel
theorem dX2_setStrength_14 : decode cX2_setStrength 14 = .ok (.iload_n 1, 1) := by decide +kernel
theorem dX2_setStrength_15 : decode cX2_setStrength 15 = .ok (.imul, 1) := by decide +kernel
theorem dX2_setStrength_16 : decode cX2_setStrength 16 = .ok (.iload_n 2, 1) := by decide +kernel
theorem dX2_setStrength_17 : decode cX2_setStrength 17 = .ok (.iadd, 1) := by decide +kernel
theorem dX2_setStrength_18 : decode cX2_setStrength 18 = .ok (.iload_n 3, 1) := by decide +kernel
theorem dX2_setStrength_19 : decode cX2_setStrength 19 = .ok (.iastore, 1) := by decide +kernel
theorem dX2_setStrength_20 : decode cX2_setStrength 20 = .ok (.aload_n 0, 1) := by decide +kernel
theorem dX2_setStrength_21 : decode cX2_setStrength 21 = .ok (.getfield 9, 3) := by decide +kernel
theorem dX2_setStrength_24 : decode cX2_setStrength 24 = .ok (.bipush 7, 2) := by decide +kernel
theorem dX2_setStrength_26 : decode cX2_setStrength 26 = .ok (.iload_n 2, 1) := by decide +kernel
theorem dX2_setStrength_27 : decode cX2_setStrength 27 = .ok (.imul, 1) := by decide +kernel
theorem dX2_setStrength_28 : decode cX2_setStrength 28 = .ok (.iload_n 1, 1) := by decide +kernel
theorem dX2_setStrength_29 : decode cX2_setStrength 29 = .ok (.iadd, 1) := by decide +kernel
theorem dX2_setStrength_30 : decode cX2_setStrength 30 = .ok (.iload_n 3, 1) := by decide +kernel
theorem dX2_setStrength_31 : decode cX2_setStrength 31 = .ok (.iastore, 1) := by decide +kernel
theorem dX2_setStrength_32 : decode cX2_setStrength 32 = .ok (.return_, 1) := by decide +kernel
theorem dX2_milesBetween_0 : decode cX2_milesBetween 0 = .ok (.iload_n 1, 1) := by decide +kernel
theorem dX2_milesBetween_1 : decode cX2_milesBetween 1 = .ok (.invokestatic 40, 3) := by decide +kernel
theorem dX2_milesBetween_4 : decode cX2_milesBetween 4 = .ok (.ifCond .eq 24, 3) := by decide +kernel
theorem dX2_milesBetween_7 : decode cX2_milesBetween 7 = .ok (.iload_n 2, 1) := by decide +kernel
theorem dX2_milesBetween_8 : decode cX2_milesBetween 8 = .ok (.invokestatic 40, 3) := by decide +kernel
theorem dX2_milesBetween_11 : decode cX2_milesBetween 11 = .ok (.ifCond .eq 17, 3) := by decide +kernel
theorem dX2_milesBetween_14 : decode cX2_milesBetween 14 = .ok (.aload_n 0, 1) := by decide +kernel
theorem dX2_milesBetween_15 : decode cX2_milesBetween 15 = .ok (.getfield 15, 3) := by decide +kernel
theorem dX2_milesBetween_18 : decode cX2_milesBetween 18 = .ok (.bipush 7, 2) := by decide +kernel
theorem dX2_milesBetween_20 : decode cX2_milesBetween 20 = .ok (.iload_n 1, 1) := by decide +kernel
theorem dX2_milesBetween_21 : decode cX2_milesBetween 21 = .ok (.imul, 1) := by decide +kernel
theorem dX2_milesBetween_22 : decode cX2_milesBetween 22 = .ok (.iload_n 2, 1) := by decide +kernel
theorem dX2_milesBetween_23 : decode cX2_milesBetween 23 = .ok (.iadd, 1) := by decide +kernel
theorem dX2_milesBetween_24 : decode cX2_milesBetween 24 = .ok (.iaload, 1) := by decide +kernel
theorem dX2_milesBetween_25 : decode cX2_milesBetween 25 = .ok (.goto 4, 3) := by decide +kernel
theorem dX2_milesBetween_28 : decode cX2_milesBetween 28 = .ok (.iconst 0, 1) := by decide +kernel
theorem dX2_milesBetween_29 : decode cX2_milesBetween 29 = .ok (.ireturn, 1) := by decide +kernel
theorem dX2_setMiles_0 : decode cX2_setMiles 0 = .ok (.iload_n 1, 1) := by decide +kernel
theorem dX2_setMiles_1 : decode cX2_setMiles 1 = .ok (.iload_n 2, 1) := by decide +kernel
theorem dX2_setMiles_2 : decode cX2_setMiles 2 = .ok (.invokestatic 44, 3) := by decide +kernel
theorem dX2_setMiles_5 : decode cX2_setMiles 5 = .ok (.ifCond .eq 27, 3) := by decide +kernel
theorem dX2_setMiles_8 : decode cX2_setMiles 8 = .ok (.aload_n 0, 1) := by decide +kernel
theorem dX2_setMiles_9 : decode cX2_setMiles 9 = .ok (.getfield 15, 3) := by decide +kernel
theorem dX2_setMiles_12 : decode cX2_setMiles 12 = .ok (.bipush 7, 2) := by decide +kernel
theorem dX2_setMiles_14 : decode cX2_setMiles 14 = .ok (.iload_n 1, 1) := by decide +kernel
theorem dX2_setMiles_15 : decode cX2_setMiles 15 = .ok (.imul, 1) := by decide +kernel
theorem dX2_setMiles_16 : decode cX2_setMiles 16 = .ok (.iload_n 2, 1) := by decide +kernel
theorem dX2_setMiles_17 : decode cX2_setMiles 17 = .ok (.iadd, 1) := by decide +kernel
theorem dX2_setMiles_18 : decode cX2_setMiles 18 = .ok (.iload_n 3, 1) := by decide +kernel
theorem dX2_setMiles_19 : decode cX2_setMiles 19 = .ok (.iastore, 1) := by decide +kernel
theorem dX2_setMiles_20 : decode cX2_setMiles 20 = .ok (.aload_n 0, 1) := by decide +kernel
theorem dX2_setMiles_21 : decode cX2_setMiles 21 = .ok (.getfield 15, 3) := by decide +kernel
theorem dX2_setMiles_24 : decode cX2_setMiles 24 = .ok (.bipush 7, 2) := by decide +kernel
theorem dX2_setMiles_26 : decode cX2_setMiles 26 = .ok (.iload_n 2, 1) := by decide +kernel
theorem dX2_setMiles_27 : decode cX2_setMiles 27 = .ok (.imul, 1) := by decide +kernel
theorem dX2_setMiles_28 : decode cX2_setMiles 28 = .ok (.iload_n 1, 1) := by decide +kernel
theorem dX2_setMiles_29 : decode cX2_setMiles 29 = .ok (.iadd, 1) := by decide +kernel
theorem dX2_setMiles_30 : decode cX2_setMiles 30 = .ok (.iload_n 3, 1) := by decide +kernel
theorem dX2_setMiles_31 : decode cX2_setMiles 31 = .ok (.iastore, 1) := by decide +kernel
theorem dX2_setMiles_32 : decode cX2_setMiles 32 = .ok (.return_, 1) := by decide +kernel
theorem dX2_placeOf_0 : decode cX2_placeOf 0 = .ok (.iload_n 1, 1) := by decide +kernel
theorem dX2_placeOf_1 : decode cX2_placeOf 1 = .ok (.invokestatic 40, 3) := by decide +kernel
theorem dX2_placeOf_4 : decode cX2_placeOf 4 = .ok (.ifCond .eq 12, 3) := by decide +kernel
theorem dX2_placeOf_7 : decode cX2_placeOf 7 = .ok (.aload_n 0, 1) := by decide +kernel
theorem dX2_placeOf_8 : decode cX2_placeOf 8 = .ok (.getfield 18, 3) := by decide +kernel
theorem dX2_placeOf_11 : decode cX2_placeOf 11 = .ok (.iload_n 1, 1) := by decide +kernel
theorem dX2_placeOf_12 : decode cX2_placeOf 12 = .ok (.iaload, 1) := by decide +kernel
theorem dX2_placeOf_13 : decode cX2_placeOf 13 = .ok (.goto 5, 3) := by decide +kernel
theorem dX2_placeOf_16 : decode cX2_placeOf 16 = .ok (.bipush (-6), 2) := by decide +kernel
theorem dX2_placeOf_18 : decode cX2_placeOf 18 = .ok (.ireturn, 1) := by decide +kernel
theorem dX2_cowsOf_0 : decode cX2_cowsOf 0 = .ok (.iload_n 1, 1) := by decide +kernel
theorem dX2_cowsOf_1 : decode cX2_cowsOf 1 = .ok (.invokestatic 40, 3) := by decide +kernel
theorem dX2_cowsOf_4 : decode cX2_cowsOf 4 = .ok (.ifCond .eq 12, 3) := by decide +kernel
theorem dX2_cowsOf_7 : decode cX2_cowsOf 7 = .ok (.aload_n 0, 1) := by decide +kernel
theorem dX2_cowsOf_8 : decode cX2_cowsOf 8 = .ok (.getfield 21, 3) := by decide +kernel
theorem dX2_cowsOf_11 : decode cX2_cowsOf 11 = .ok (.iload_n 1, 1) := by decide +kernel
theorem dX2_cowsOf_12 : decode cX2_cowsOf 12 = .ok (.iaload, 1) := by decide +kernel
theorem dX2_cowsOf_13 : decode cX2_cowsOf 13 = .ok (.goto 4, 3) := by decide +kernel
theorem dX2_cowsOf_16 : decode cX2_cowsOf 16 = .ok (.iconst 0, 1) := by decide +kernel
theorem dX2_cowsOf_17 : decode cX2_cowsOf 17 = .ok (.ireturn, 1) := by decide +kernel
theorem dX2_settle_0 : decode cX2_settle 0 = .ok (.iload_n 1, 1) := by decide +kernel
theorem dX2_settle_1 : decode cX2_settle 1 = .ok (.invokestatic 40, 3) := by decide +kernel
theorem dX2_settle_4 : decode cX2_settle 4 = .ok (.ifCond .eq 24, 3) := by decide +kernel
theorem dX2_settle_7 : decode cX2_settle 7 = .ok (.iload_n 3, 1) := by decide +kernel
theorem dX2_settle_8 : decode cX2_settle 8 = .ok (.invokestatic 40, 3) := by decide +kernel
theorem dX2_settle_11 : decode cX2_settle 11 = .ok (.ifCond .eq 17, 3) := by decide +kernel
theorem dX2_settle_14 : decode cX2_settle 14 = .ok (.aload_n 0, 1) := by decide +kernel
theorem dX2_settle_15 : decode cX2_settle 15 = .ok (.getfield 21, 3) := by decide +kernel
theorem dX2_settle_18 : decode cX2_settle 18 = .ok (.iload_n 1, 1) := by decide +kernel
theorem dX2_settle_19 : decode cX2_settle 19 = .ok (.iload_n 2, 1) := by decide +kernel
theorem dX2_settle_20 : decode cX2_settle 20 = .ok (.iastore, 1) := by decide +kernel
theorem dX2_settle_21 : decode cX2_settle 21 = .ok (.aload_n 0, 1) := by decide +kernel
theorem dX2_settle_22 : decode cX2_settle 22 = .ok (.getfield 18, 3) := by decide +kernel
theorem dX2_settle_25 : decode cX2_settle 25 = .ok (.iload_n 1, 1) := by decide +kernel
theorem dX2_settle_26 : decode cX2_settle 26 = .ok (.iload_n 3, 1) := by decide +kernel
theorem dX2_settle_27 : decode cX2_settle 27 = .ok (.iastore, 1) := by decide +kernel
theorem dX2_settle_28 : decode cX2_settle 28 = .ok (.return_, 1) := by decide +kernel
theorem dX2_countPales_0 : decode cX2_countPales 0 = .ok (.aload_n 0, 1) := by decide +kernel
theorem dX2_countPales_1 : decode cX2_countPales 1 = .ok (.iconst 0, 1) := by decide +kernel
theorem dX2_countPales_2 : decode cX2_countPales 2 = .ok (.bipush 9, 2) := by decide +kernel
theorem dX2_countPales_4 : decode cX2_countPales 4 = .ok (.invokevirtual 48, 3) := by decide +kernel
theorem dX2_countPales_7 : decode cX2_countPales 7 = .ok (.ireturn, 1) := by decide +kernel
theorem dX2_countGaps_0 : decode cX2_countGaps 0 = .ok (.aload_n 0, 1) := by decide +kernel
theorem dX2_countGaps_1 : decode cX2_countGaps 1 = .ok (.iconst 0, 1) := by decide +kernel
theorem dX2_countGaps_2 : decode cX2_countGaps 2 = .ok (.iconst 0, 1) := by decide +kernel
theorem dX2_countGaps_3 : decode cX2_countGaps 3 = .ok (.invokevirtual 48, 3) := by decide +kernel
theorem dX2_countGaps_6 : decode cX2_countGaps 6 = .ok (.ireturn, 1) := by decide +kernel
theorem dX2_countStrengths_0 : decode cX2_countStrengths 0 = .ok (.iconst 0, 1) := by decide +kernel
theorem dX2_countStrengths_1 : decode cX2_countStrengths 1 = .ok (.istore_n 3, 1) := by decide +kernel
theorem dX2_countStrengths_2 : decode cX2_countStrengths 2 = .ok (.iconst 0, 1) := by decide +kernel
theorem dX2_countStrengths_3 : decode cX2_countStrengths 3 = .ok (.istore 4, 2) := by decide +kernel
theorem dX2_countStrengths_5 : decode cX2_countStrengths 5 = .ok (.iload 4, 2) := by decide +kernel
theorem dX2_countStrengths_7 : decode cX2_countStrengths 7 = .ok (.bipush 7, 2) := by decide +kernel
theorem dX2_countStrengths_9 : decode cX2_countStrengths 9 = .ok (.if_icmp .ge 58, 3) := by decide +kernel
theorem dX2_countStrengths_12 : decode cX2_countStrengths 12 = .ok (.iload 4, 2) := by decide +kernel
theorem dX2_countStrengths_14 : decode cX2_countStrengths 14 = .ok (.iconst 1, 1) := by decide +kernel
theorem dX2_countStrengths_15 : decode cX2_countStrengths 15 = .ok (.iadd, 1) := by decide +kernel
theorem dX2_countStrengths_16 : decode cX2_countStrengths 16 = .ok (.istore 5, 2) := by decide +kernel
theorem dX2_countStrengths_18 : decode cX2_countStrengths 18 = .ok (.iload 5, 2) := by decide +kernel
theorem dX2_countStrengths_20 : decode cX2_countStrengths 20 = .ok (.bipush 7, 2) := by decide +kernel
theorem dX2_countStrengths_22 : decode cX2_countStrengths 22 = .ok (.if_icmp .ge 39, 3) := by decide +kernel
theorem dX2_countStrengths_25 : decode cX2_countStrengths 25 = .ok (.aload_n 0, 1) := by decide +kernel
theorem dX2_countStrengths_26 : decode cX2_countStrengths 26 = .ok (.getfield 9, 3) := by decide +kernel
theorem dX2_countStrengths_29 : decode cX2_countStrengths 29 = .ok (.bipush 7, 2) := by decide +kernel
theorem dX2_countStrengths_31 : decode cX2_countStrengths 31 = .ok (.iload 4, 2) := by decide +kernel
theorem dX2_countStrengths_33 : decode cX2_countStrengths 33 = .ok (.imul, 1) := by decide +kernel
theorem dX2_countStrengths_34 : decode cX2_countStrengths 34 = .ok (.iload 5, 2) := by decide +kernel
theorem dX2_countStrengths_36 : decode cX2_countStrengths 36 = .ok (.iadd, 1) := by decide +kernel
theorem dX2_countStrengths_37 : decode cX2_countStrengths 37 = .ok (.iaload, 1) := by decide +kernel
theorem dX2_countStrengths_38 : decode cX2_countStrengths 38 = .ok (.istore 6, 2) := by decide +kernel
theorem dX2_countStrengths_40 : decode cX2_countStrengths 40 = .ok (.iload 6, 2) := by decide +kernel
theorem dX2_countStrengths_42 : decode cX2_countStrengths 42 = .ok (.iload_n 1, 1) := by decide +kernel
theorem dX2_countStrengths_43 : decode cX2_countStrengths 43 = .ok (.if_icmp .lt 12, 3) := by decide +kernel
theorem dX2_countStrengths_46 : decode cX2_countStrengths 46 = .ok (.iload 6, 2) := by decide +kernel
theorem dX2_countStrengths_48 : decode cX2_countStrengths 48 = .ok (.iload_n 2, 1) := by decide +kernel
theorem dX2_countStrengths_49 : decode cX2_countStrengths 49 = .ok (.if_icmp .gt 6, 3) := by decide +kernel
theorem dX2_countStrengths_52 : decode cX2_countStrengths 52 = .ok (.iinc 3 1, 3) := by decide +kernel
theorem dX2_countStrengths_55 : decode cX2_countStrengths 55 = .ok (.iinc 5 1, 3) := by decide +kernel
theorem dX2_countStrengths_58 : decode cX2_countStrengths 58 = .ok (.goto (-40), 3) := by decide +kernel
theorem dX2_countStrengths_61 : decode cX2_countStrengths 61 = .ok (.iinc 4 1, 3) := by decide +kernel
theorem dX2_countStrengths_64 : decode cX2_countStrengths 64 = .ok (.goto (-59), 3) := by decide +kernel
theorem dX2_countStrengths_67 : decode cX2_countStrengths 67 = .ok (.iload_n 3, 1) := by decide +kernel
theorem dX2_countStrengths_68 : decode cX2_countStrengths 68 = .ok (.ireturn, 1) := by decide +kernel
theorem dX2_awayBits_0 : decode cX2_awayBits 0 = .ok (.iconst 0, 1) := by decide +kernel
theorem dX2_awayBits_1 : decode cX2_awayBits 1 = .ok (.istore_n 1, 1) := by decide +kernel
theorem dX2_awayBits_2 : decode cX2_awayBits 2 = .ok (.iconst 0, 1) := by decide +kernel
theorem dX2_awayBits_3 : decode cX2_awayBits 3 = .ok (.istore_n 2, 1) := by decide +kernel
theorem dX2_awayBits_4 : decode cX2_awayBits 4 = .ok (.iload_n 2, 1) := by decide +kernel
theorem dX2_awayBits_5 : decode cX2_awayBits 5 = .ok (.bipush 7, 2) := by decide +kernel
theorem dX2_awayBits_7 : decode cX2_awayBits 7 = .ok (.if_icmp .ge 25, 3) := by decide +kernel
theorem dX2_awayBits_10 : decode cX2_awayBits 10 = .ok (.aload_n 0, 1) := by decide +kernel
theorem dX2_awayBits_11 : decode cX2_awayBits 11 = .ok (.getfield 18, 3) := by decide +kernel
theorem dX2_awayBits_14 : decode cX2_awayBits 14 = .ok (.iload_n 2, 1) := by decide +kernel
theorem dX2_awayBits_15 : decode cX2_awayBits 15 = .ok (.iaload, 1) := by decide +kernel
theorem dX2_awayBits_16 : decode cX2_awayBits 16 = .ok (.iload_n 2, 1) := by decide +kernel
theorem dX2_awayBits_17 : decode cX2_awayBits 17 = .ok (.if_icmp .eq 9, 3) := by decide +kernel
theorem dX2_awayBits_20 : decode cX2_awayBits 20 = .ok (.iload_n 1, 1) := by decide +kernel
theorem dX2_awayBits_21 : decode cX2_awayBits 21 = .ok (.iconst 1, 1) := by decide +kernel
theorem dX2_awayBits_22 : decode cX2_awayBits 22 = .ok (.iload_n 2, 1) := by decide +kernel
theorem dX2_awayBits_23 : decode cX2_awayBits 23 = .ok (.ishl, 1) := by decide +kernel
theorem dX2_awayBits_24 : decode cX2_awayBits 24 = .ok (.ior, 1) := by decide +kernel
theorem dX2_awayBits_25 : decode cX2_awayBits 25 = .ok (.istore_n 1, 1) := by decide +kernel
theorem dX2_awayBits_26 : decode cX2_awayBits 26 = .ok (.iinc 2 1, 3) := by decide +kernel
theorem dX2_awayBits_29 : decode cX2_awayBits 29 = .ok (.goto (-25), 3) := by decide +kernel
theorem dX2_awayBits_32 : decode cX2_awayBits 32 = .ok (.iload_n 1, 1) := by decide +kernel
theorem dX2_awayBits_33 : decode cX2_awayBits 33 = .ok (.ireturn, 1) := by decide +kernel
theorem dX2_toBeMended_0 : decode cX2_toBeMended 0 = .ok (.iconst 0, 1) := by decide +kernel
theorem dX2_toBeMended_1 : decode cX2_toBeMended 1 = .ok (.istore_n 2, 1) := by decide +kernel
theorem dX2_toBeMended_2 : decode cX2_toBeMended 2 = .ok (.iconst 0, 1) := by decide +kernel
theorem dX2_toBeMended_3 : decode cX2_toBeMended 3 = .ok (.istore_n 3, 1) := by decide +kernel
theorem dX2_toBeMended_4 : decode cX2_toBeMended 4 = .ok (.iload_n 3, 1) := by decide +kernel
theorem dX2_toBeMended_5 : decode cX2_toBeMended 5 = .ok (.bipush 7, 2) := by decide +kernel
theorem dX2_toBeMended_7 : decode cX2_toBeMended 7 = .ok (.if_icmp .ge 35, 3) := by decide +kernel
theorem dX2_toBeMended_10 : decode cX2_toBeMended 10 = .ok (.aload_n 0, 1) := by decide +kernel
theorem dX2_toBeMended_11 : decode cX2_toBeMended 11 = .ok (.iload_n 1, 1) := by decide +kernel
theorem dX2_toBeMended_12 : decode cX2_toBeMended 12 = .ok (.iload_n 3, 1) := by decide +kernel
theorem dX2_toBeMended_13 : decode cX2_toBeMended 13 = .ok (.invokevirtual 52, 3) := by decide +kernel
theorem dX2_toBeMended_16 : decode cX2_toBeMended 16 = .ok (.istore 4, 2) := by decide +kernel
theorem dX2_toBeMended_18 : decode cX2_toBeMended 18 = .ok (.iload 4, 2) := by decide +kernel
theorem dX2_toBeMended_20 : decode cX2_toBeMended 20 = .ok (.ifCond .lt 16, 3) := by decide +kernel
theorem dX2_toBeMended_23 : decode cX2_toBeMended 23 = .ok (.iload 4, 2) := by decide +kernel
theorem dX2_toBeMended_25 : decode cX2_toBeMended 25 = .ok (.bipush 9, 2) := by decide +kernel
theorem dX2_toBeMended_27 : decode cX2_toBeMended 27 = .ok (.if_icmp .ge 9, 3) := by decide +kernel
theorem dX2_toBeMended_30 : decode cX2_toBeMended 30 = .ok (.iload_n 2, 1) := by decide +kernel
theorem dX2_toBeMended_31 : decode cX2_toBeMended 31 = .ok (.iconst 1, 1) := by decide +kernel
theorem dX2_toBeMended_32 : decode cX2_toBeMended 32 = .ok (.iload_n 3, 1) := by decide +kernel
theorem dX2_toBeMended_33 : decode cX2_toBeMended 33 = .ok (.ishl, 1) := by decide +kernel
theorem dX2_toBeMended_34 : decode cX2_toBeMended 34 = .ok (.ior, 1) := by decide +kernel
theorem dX2_toBeMended_35 : decode cX2_toBeMended 35 = .ok (.istore_n 2, 1) := by decide +kernel
theorem dX2_toBeMended_36 : decode cX2_toBeMended 36 = .ok (.iinc 3 1, 3) := by decide +kernel
theorem dX2_toBeMended_39 : decode cX2_toBeMended 39 = .ok (.goto (-35), 3) := by decide +kernel
theorem dX2_toBeMended_42 : decode cX2_toBeMended 42 = .ok (.iload_n 2, 1) := by decide +kernel
theorem dX2_toBeMended_43 : decode cX2_toBeMended 43 = .ok (.ireturn, 1) := by decide +kernel
theorem dX2_whyNot_0 : decode cX2_whyNot 0 = .ok (.iload_n 1, 1) := by decide +kernel
theorem dX2_whyNot_1 : decode cX2_whyNot 1 = .ok (.tableswitch 65 0 3 #[31, 38, 44, 51], 31) := by decide +kernel
theorem dX2_whyNot_32 : decode cX2_whyNot 32 = .ok (.aload_n 0, 1) := by decide +kernel
theorem dX2_whyNot_33 : decode cX2_whyNot 33 = .ok (.iload_n 2, 1) := by decide +kernel
theorem dX2_whyNot_34 : decode cX2_whyNot 34 = .ok (.iload_n 3, 1) := by decide +kernel
theorem dX2_whyNot_35 : decode cX2_whyNot 35 = .ok (.invokevirtual 55, 3) := by decide +kernel
theorem dX2_whyNot_38 : decode cX2_whyNot 38 = .ok (.ireturn, 1) := by decide +kernel
theorem dX2_whyNot_39 : decode cX2_whyNot 39 = .ok (.aload_n 0, 1) := by decide +kernel
theorem dX2_whyNot_40 : decode cX2_whyNot 40 = .ok (.iload_n 2, 1) := by decide +kernel
theorem dX2_whyNot_41 : decode cX2_whyNot 41 = .ok (.invokevirtual 58, 3) := by decide +kernel
theorem dX2_whyNot_44 : decode cX2_whyNot 44 = .ok (.ireturn, 1) := by decide +kernel
theorem dX2_whyNot_45 : decode cX2_whyNot 45 = .ok (.aload_n 0, 1) := by decide +kernel
theorem dX2_whyNot_46 : decode cX2_whyNot 46 = .ok (.iload_n 2, 1) := by decide +kernel
theorem dX2_whyNot_47 : decode cX2_whyNot 47 = .ok (.iload_n 3, 1) := by decide +kernel
theorem dX2_whyNot_48 : decode cX2_whyNot 48 = .ok (.invokevirtual 62, 3) := by decide +kernel
theorem dX2_whyNot_51 : decode cX2_whyNot 51 = .ok (.ireturn, 1) := by decide +kernel
theorem dX2_whyNot_52 : decode cX2_whyNot 52 = .ok (.aload_n 0, 1) := by decide +kernel
theorem dX2_whyNot_53 : decode cX2_whyNot 53 = .ok (.invokevirtual 65, 3) := by decide +kernel
theorem dX2_whyNot_56 : decode cX2_whyNot 56 = .ok (.ifCond .ne 8, 3) := by decide +kernel
theorem dX2_whyNot_59 : decode cX2_whyNot 59 = .ok (.bipush 6, 2) := by decide +kernel
theorem dX2_whyNot_61 : decode cX2_whyNot 61 = .ok (.goto 4, 3) := by decide +kernel
theorem dX2_whyNot_64 : decode cX2_whyNot 64 = .ok (.iconst 0, 1) := by decide +kernel
theorem dX2_whyNot_65 : decode cX2_whyNot 65 = .ok (.ireturn, 1) := by decide +kernel
theorem dX2_whyNot_66 : decode cX2_whyNot 66 = .ok (.aload_n 0, 1) := by decide +kernel
theorem dX2_whyNot_67 : decode cX2_whyNot 67 = .ok (.getfield 24, 3) := by decide +kernel
theorem dX2_whyNot_70 : decode cX2_whyNot 70 = .ok (.bipush 99, 2) := by decide +kernel
theorem dX2_whyNot_72 : decode cX2_whyNot 72 = .ok (.if_icmp .lt 8, 3) := by decide +kernel
theorem dX2_whyNot_75 : decode cX2_whyNot 75 = .ok (.bipush 7, 2) := by decide +kernel
theorem dX2_whyNot_77 : decode cX2_whyNot 77 = .ok (.goto 4, 3) := by decide +kernel
theorem dX2_whyNot_80 : decode cX2_whyNot 80 = .ok (.iconst 0, 1) := by decide +kernel
theorem dX2_whyNot_81 : decode cX2_whyNot 81 = .ok (.ireturn, 1) := by decide +kernel
theorem dX2_whyNoWalk_0 : decode cX2_whyNoWalk 0 = .ok (.aload_n 0, 1) := by decide +kernel
theorem dX2_whyNoWalk_1 : decode cX2_whyNoWalk 1 = .ok (.iload_n 1, 1) := by decide +kernel
theorem dX2_whyNoWalk_2 : decode cX2_whyNoWalk 2 = .ok (.invokevirtual 69, 3) := by decide +kernel
theorem dX2_whyNoWalk_5 : decode cX2_whyNoWalk 5 = .ok (.iload_n 2, 1) := by decide +kernel
theorem dX2_whyNoWalk_6 : decode cX2_whyNoWalk 6 = .ok (.if_icmp .ne 5, 3) := by decide +kernel
theorem dX2_whyNoWalk_9 : decode cX2_whyNoWalk 9 = .ok (.iconst 1, 1) := by decide +kernel
theorem dX2_whyNoWalk_10 : decode cX2_whyNoWalk 10 = .ok (.ireturn, 1) := by decide +kernel
theorem dX2_whyNoWalk_11 : decode cX2_whyNoWalk 11 = .ok (.aload_n 0, 1) := by decide +kernel
theorem dX2_whyNoWalk_12 : decode cX2_whyNoWalk 12 = .ok (.aload_n 0, 1) := by decide +kernel
theorem dX2_whyNoWalk_13 : decode cX2_whyNoWalk 13 = .ok (.iload_n 1, 1) := by decide +kernel
theorem dX2_whyNoWalk_14 : decode cX2_whyNoWalk 14 = .ok (.invokevirtual 69, 3) := by decide +kernel
theorem dX2_whyNoWalk_17 : decode cX2_whyNoWalk 17 = .ok (.iload_n 2, 1) := by decide +kernel
theorem dX2_whyNoWalk_18 : decode cX2_whyNoWalk 18 = .ok (.invokevirtual 72, 3) := by decide +kernel
theorem dX2_whyNoWalk_21 : decode cX2_whyNoWalk 21 = .ok (.ifCond .ne 7, 3) := by decide +kernel
theorem dX2_whyNoWalk_24 : decode cX2_whyNoWalk 24 = .ok (.iconst 2, 1) := by decide +kernel
theorem dX2_whyNoWalk_25 : decode cX2_whyNoWalk 25 = .ok (.goto 4, 3) := by decide +kernel
theorem dX2_whyNoWalk_28 : decode cX2_whyNoWalk 28 = .ok (.iconst 0, 1) := by decide +kernel
theorem dX2_whyNoWalk_29 : decode cX2_whyNoWalk 29 = .ok (.ireturn, 1) := by decide +kernel
theorem dX2_whyNoMending_0 : decode cX2_whyNoMending 0 = .ok (.aload_n 0, 1) := by decide +kernel
theorem dX2_whyNoMending_1 : decode cX2_whyNoMending 1 = .ok (.iload_n 1, 1) := by decide +kernel
theorem dX2_whyNoMending_2 : decode cX2_whyNoMending 2 = .ok (.invokevirtual 69, 3) := by decide +kernel
theorem dX2_whyNoMending_5 : decode cX2_whyNoMending 5 = .ok (.iload_n 1, 1) := by decide +kernel
theorem dX2_whyNoMending_6 : decode cX2_whyNoMending 6 = .ok (.if_icmp .ne 5, 3) := by decide +kernel
theorem dX2_whyNoMending_9 : decode cX2_whyNoMending 9 = .ok (.iconst 3, 1) := by decide +kernel
theorem dX2_whyNoMending_10 : decode cX2_whyNoMending 10 = .ok (.ireturn, 1) := by decide +kernel
theorem dX2_whyNoMending_11 : decode cX2_whyNoMending 11 = .ok (.aload_n 0, 1) := by decide +kernel
theorem dX2_whyNoMending_12 : decode cX2_whyNoMending 12 = .ok (.iload_n 1, 1) := by decide +kernel
theorem dX2_whyNoMending_13 : decode cX2_whyNoMending 13 = .ok (.aload_n 0, 1) := by decide +kernel
theorem dX2_whyNoMending_14 : decode cX2_whyNoMending 14 = .ok (.iload_n 1, 1) := by decide +kernel
theorem dX2_whyNoMending_15 : decode cX2_whyNoMending 15 = .ok (.invokevirtual 69, 3) := by decide +kernel
theorem dX2_whyNoMending_18 : decode cX2_whyNoMending 18 = .ok (.invokevirtual 52, 3) := by decide +kernel
theorem dX2_whyNoMending_21 : decode cX2_whyNoMending 21 = .ok (.bipush 9, 2) := by decide +kernel
theorem dX2_whyNoMending_23 : decode cX2_whyNoMending 23 = .ok (.invokestatic 75, 3) := by decide +kernel
theorem dX2_whyNoMending_26 : decode cX2_whyNoMending 26 = .ok (.ireturn, 1) := by decide +kernel
theorem dX2_whyNoBreaking_0 : decode cX2_whyNoBreaking 0 = .ok (.aload_n 0, 1) := by decide +kernel
theorem dX2_whyNoBreaking_1 : decode cX2_whyNoBreaking 1 = .ok (.iload_n 1, 1) := by decide +kernel
theorem dX2_whyNoBreaking_2 : decode cX2_whyNoBreaking 2 = .ok (.invokevirtual 69, 3) := by decide +kernel
theorem dX2_whyNoBreaking_5 : decode cX2_whyNoBreaking 5 = .ok (.iload_n 1, 1) := by decide +kernel
theorem dX2_whyNoBreaking_6 : decode cX2_whyNoBreaking 6 = .ok (.if_icmp .eq 5, 3) := by decide +kernel
theorem dX2_whyNoBreaking_9 : decode cX2_whyNoBreaking 9 = .ok (.iconst 3, 1) := by decide +kernel
theorem dX2_whyNoBreaking_10 : decode cX2_whyNoBreaking 10 = .ok (.ireturn, 1) := by decide +kernel
theorem dX2_whyNoBreaking_11 : decode cX2_whyNoBreaking 11 = .ok (.aload_n 0, 1) := by decide +kernel
theorem dX2_whyNoBreaking_12 : decode cX2_whyNoBreaking 12 = .ok (.iload_n 1, 1) := by decide +kernel
theorem dX2_whyNoBreaking_13 : decode cX2_whyNoBreaking 13 = .ok (.iload_n 2, 1) := by decide +kernel
theorem dX2_whyNoBreaking_14 : decode cX2_whyNoBreaking 14 = .ok (.invokevirtual 52, 3) := by decide +kernel
theorem dX2_whyNoBreaking_17 : decode cX2_whyNoBreaking 17 = .ok (.iconst 0, 1) := by decide +kernel
theorem dX2_whyNoBreaking_18 : decode cX2_whyNoBreaking 18 = .ok (.invokestatic 75, 3) := by decide +kernel
theorem dX2_whyNoBreaking_21 : decode cX2_whyNoBreaking 21 = .ok (.ireturn, 1) := by decide +kernel
theorem dX2_whyNotFrom_0 : decode cX2_whyNotFrom 0 = .ok (.iload_n 0, 1) := by decide +kernel
theorem dX2_whyNotFrom_1 : decode cX2_whyNotFrom 1 = .ok (.ifCond .ge 5, 3) := by decide +kernel
theorem dX2_whyNotFrom_4 : decode cX2_whyNotFrom 4 = .ok (.iconst 4, 1) := by decide +kernel
theorem dX2_whyNotFrom_5 : decode cX2_whyNotFrom 5 = .ok (.ireturn, 1) := by decide +kernel
theorem dX2_whyNotFrom_6 : decode cX2_whyNotFrom 6 = .ok (.iload_n 0, 1) := by decide +kernel
theorem dX2_whyNotFrom_7 : decode cX2_whyNotFrom 7 = .ok (.iload_n 1, 1) := by decide +kernel
theorem dX2_whyNotFrom_8 : decode cX2_whyNotFrom 8 = .ok (.if_icmp .ne 7, 3) := by decide +kernel
theorem dX2_whyNotFrom_11 : decode cX2_whyNotFrom 11 = .ok (.iconst 5, 1) := by decide +kernel
theorem dX2_whyNotFrom_12 : decode cX2_whyNotFrom 12 = .ok (.goto 4, 3) := by decide +kernel
theorem dX2_whyNotFrom_15 : decode cX2_whyNotFrom 15 = .ok (.iconst 0, 1) := by decide +kernel
theorem dX2_whyNotFrom_16 : decode cX2_whyNotFrom 16 = .ok (.ireturn, 1) := by decide +kernel
theorem dX2_perform_0 : decode cX2_perform 0 = .ok (.iload_n 1, 1) := by decide +kernel
theorem dX2_perform_1 : decode cX2_perform 1 = .ok (.tableswitch 83 0 3 #[31, 45, 58, 75], 31) := by decide +kernel
theorem dX2_perform_32 : decode cX2_perform 32 = .ok (.aload_n 0, 1) := by decide +kernel
theorem dX2_perform_33 : decode cX2_perform 33 = .ok (.iload_n 2, 1) := by decide +kernel
theorem dX2_perform_34 : decode cX2_perform 34 = .ok (.aload_n 0, 1) := by decide +kernel
theorem dX2_perform_35 : decode cX2_perform 35 = .ok (.iload_n 2, 1) := by decide +kernel
theorem dX2_perform_36 : decode cX2_perform 36 = .ok (.invokevirtual 78, 3) := by decide +kernel
theorem dX2_perform_39 : decode cX2_perform 39 = .ok (.iload_n 3, 1) := by decide +kernel
theorem dX2_perform_40 : decode cX2_perform 40 = .ok (.invokevirtual 81, 3) := by decide +kernel
theorem dX2_perform_43 : decode cX2_perform 43 = .ok (.goto 45, 3) := by decide +kernel
theorem dX2_perform_46 : decode cX2_perform 46 = .ok (.aload_n 0, 1) := by decide +kernel
theorem dX2_perform_47 : decode cX2_perform 47 = .ok (.iload_n 2, 1) := by decide +kernel
theorem dX2_perform_48 : decode cX2_perform 48 = .ok (.aload_n 0, 1) := by decide +kernel
theorem dX2_perform_49 : decode cX2_perform 49 = .ok (.iload_n 2, 1) := by decide +kernel
theorem dX2_perform_50 : decode cX2_perform 50 = .ok (.invokevirtual 69, 3) := by decide +kernel
theorem dX2_perform_53 : decode cX2_perform 53 = .ok (.invokevirtual 85, 3) := by decide +kernel
theorem dX2_perform_56 : decode cX2_perform 56 = .ok (.goto 32, 3) := by decide +kernel
theorem dX2_perform_59 : decode cX2_perform 59 = .ok (.aload_n 0, 1) := by decide +kernel
theorem dX2_perform_60 : decode cX2_perform 60 = .ok (.iload_n 2, 1) := by decide +kernel
theorem dX2_perform_61 : decode cX2_perform 61 = .ok (.iload_n 3, 1) := by decide +kernel
theorem dX2_perform_62 : decode cX2_perform 62 = .ok (.aload_n 0, 1) := by decide +kernel
theorem dX2_perform_63 : decode cX2_perform 63 = .ok (.iload_n 2, 1) := by decide +kernel
theorem dX2_perform_64 : decode cX2_perform 64 = .ok (.iload_n 3, 1) := by decide +kernel
theorem dX2_perform_65 : decode cX2_perform 65 = .ok (.invokevirtual 52, 3) := by decide +kernel
theorem dX2_perform_68 : decode cX2_perform 68 = .ok (.iconst 2, 1) := by decide +kernel
theorem dX2_perform_69 : decode cX2_perform 69 = .ok (.idiv, 1) := by decide +kernel
theorem dX2_perform_70 : decode cX2_perform 70 = .ok (.invokevirtual 89, 3) := by decide +kernel
theorem dX2_perform_73 : decode cX2_perform 73 = .ok (.goto 15, 3) := by decide +kernel
theorem dX2_perform_76 : decode cX2_perform 76 = .ok (.aload_n 0, 1) := by decide +kernel
theorem dX2_perform_77 : decode cX2_perform 77 = .ok (.iload_n 3, 1) := by decide +kernel
theorem dX2_perform_78 : decode cX2_perform 78 = .ok (.invokevirtual 92, 3) := by decide +kernel
theorem dX2_perform_81 : decode cX2_perform 81 = .ok (.goto 7, 3) := by decide +kernel
theorem dX2_perform_84 : decode cX2_perform 84 = .ok (.aload_n 0, 1) := by decide +kernel
theorem dX2_perform_85 : decode cX2_perform 85 = .ok (.invokevirtual 96, 3) := by decide +kernel
theorem dX2_perform_88 : decode cX2_perform 88 = .ok (.return_, 1) := by decide +kernel
theorem dX2_mendPale_0 : decode cX2_mendPale 0 = .ok (.aload_n 0, 1) := by decide +kernel
theorem dX2_mendPale_1 : decode cX2_mendPale 1 = .ok (.iload_n 1, 1) := by decide +kernel
theorem dX2_mendPale_2 : decode cX2_mendPale 2 = .ok (.iload_n 2, 1) := by decide +kernel
theorem dX2_mendPale_3 : decode cX2_mendPale 3 = .ok (.bipush 9, 2) := by decide +kernel
theorem dX2_mendPale_5 : decode cX2_mendPale 5 = .ok (.aload_n 0, 1) := by decide +kernel
theorem dX2_mendPale_6 : decode cX2_mendPale 6 = .ok (.iload_n 1, 1) := by decide +kernel
theorem dX2_mendPale_7 : decode cX2_mendPale 7 = .ok (.iload_n 2, 1) := by decide +kernel
theorem dX2_mendPale_8 : decode cX2_mendPale 8 = .ok (.invokevirtual 52, 3) := by decide +kernel
theorem dX2_mendPale_11 : decode cX2_mendPale 11 = .ok (.iconst 3, 1) := by decide +kernel
theorem dX2_mendPale_12 : decode cX2_mendPale 12 = .ok (.iadd, 1) := by decide +kernel
theorem dX2_mendPale_13 : decode cX2_mendPale 13 = .ok (.invokestatic 99, 3) := by decide +kernel
theorem dX2_mendPale_16 : decode cX2_mendPale 16 = .ok (.invokevirtual 89, 3) := by decide +kernel
theorem dX2_mendPale_19 : decode cX2_mendPale 19 = .ok (.return_, 1) := by decide +kernel
theorem dX2_blow_0 : decode cX2_blow 0 = .ok (.iconst 0, 1) := by decide +kernel
theorem dX2_blow_1 : decode cX2_blow 1 = .ok (.istore_n 2, 1) := by decide +kernel
theorem dX2_blow_2 : decode cX2_blow 2 = .ok (.iload_n 2, 1) := by decide +kernel
theorem dX2_blow_3 : decode cX2_blow 3 = .ok (.bipush 49, 2) := by decide +kernel
theorem dX2_blow_5 : decode cX2_blow 5 = .ok (.if_icmp .ge 36, 3) := by decide +kernel
theorem dX2_blow_8 : decode cX2_blow 8 = .ok (.aload_n 0, 1) := by decide +kernel
theorem dX2_blow_9 : decode cX2_blow 9 = .ok (.getfield 9, 3) := by decide +kernel
theorem dX2_blow_12 : decode cX2_blow 12 = .ok (.iload_n 2, 1) := by decide +kernel
theorem dX2_blow_13 : decode cX2_blow 13 = .ok (.iaload, 1) := by decide +kernel
theorem dX2_blow_14 : decode cX2_blow 14 = .ok (.ifCond .lt 21, 3) := by decide +kernel
theorem dX2_blow_17 : decode cX2_blow 17 = .ok (.aload_n 0, 1) := by decide +kernel
theorem dX2_blow_18 : decode cX2_blow 18 = .ok (.getfield 9, 3) := by decide +kernel
theorem dX2_blow_21 : decode cX2_blow 21 = .ok (.iload_n 2, 1) := by decide +kernel
theorem dX2_blow_22 : decode cX2_blow 22 = .ok (.iconst 0, 1) := by decide +kernel
theorem dX2_blow_23 : decode cX2_blow 23 = .ok (.aload_n 0, 1) := by decide +kernel
theorem dX2_blow_24 : decode cX2_blow 24 = .ok (.getfield 9, 3) := by decide +kernel
theorem dX2_blow_27 : decode cX2_blow 27 = .ok (.iload_n 2, 1) := by decide +kernel
theorem dX2_blow_28 : decode cX2_blow 28 = .ok (.iaload, 1) := by decide +kernel
theorem dX2_blow_29 : decode cX2_blow 29 = .ok (.iload_n 1, 1) := by decide +kernel
theorem dX2_blow_30 : decode cX2_blow 30 = .ok (.isub, 1) := by decide +kernel
theorem dX2_blow_31 : decode cX2_blow 31 = .ok (.invokestatic 104, 3) := by decide +kernel
theorem dX2_blow_34 : decode cX2_blow 34 = .ok (.iastore, 1) := by decide +kernel
theorem dX2_blow_35 : decode cX2_blow 35 = .ok (.iinc 2 1, 3) := by decide +kernel
theorem dX2_blow_38 : decode cX2_blow 38 = .ok (.goto (-36), 3) := by decide +kernel
theorem dX2_blow_41 : decode cX2_blow 41 = .ok (.return_, 1) := by decide +kernel
theorem dX2_passDay_0 : decode cX2_passDay 0 = .ok (.iconst 0, 1) := by decide +kernel
theorem dX2_passDay_1 : decode cX2_passDay 1 = .ok (.istore_n 1, 1) := by decide +kernel
theorem dX2_passDay_2 : decode cX2_passDay 2 = .ok (.iload_n 1, 1) := by decide +kernel
theorem dX2_passDay_3 : decode cX2_passDay 3 = .ok (.bipush 7, 2) := by decide +kernel
theorem dX2_passDay_5 : decode cX2_passDay 5 = .ok (.if_icmp .ge 75, 3) := by decide +kernel
theorem dX2_passDay_8 : decode cX2_passDay 8 = .ok (.iload_n 1, 1) := by decide +kernel
theorem dX2_passDay_9 : decode cX2_passDay 9 = .ok (.iconst 1, 1) := by decide +kernel
theorem dX2_passDay_10 : decode cX2_passDay 10 = .ok (.iadd, 1) := by decide +kernel
theorem dX2_passDay_11 : decode cX2_passDay 11 = .ok (.istore_n 2, 1) := by decide +kernel
theorem dX2_passDay_12 : decode cX2_passDay 12 = .ok (.iload_n 2, 1) := by decide +kernel
theorem dX2_passDay_13 : decode cX2_passDay 13 = .ok (.bipush 7, 2) := by decide +kernel
theorem dX2_passDay_15 : decode cX2_passDay 15 = .ok (.if_icmp .ge 59, 3) := by decide +kernel
theorem dX2_passDay_18 : decode cX2_passDay 18 = .ok (.aload_n 0, 1) := by decide +kernel
theorem dX2_passDay_19 : decode cX2_passDay 19 = .ok (.getfield 9, 3) := by decide +kernel
theorem dX2_passDay_22 : decode cX2_passDay 22 = .ok (.bipush 7, 2) := by decide +kernel
theorem dX2_passDay_24 : decode cX2_passDay 24 = .ok (.iload_n 1, 1) := by decide +kernel
theorem dX2_passDay_25 : decode cX2_passDay 25 = .ok (.imul, 1) := by decide +kernel
theorem dX2_passDay_26 : decode cX2_passDay 26 = .ok (.iload_n 2, 1) := by decide +kernel
theorem dX2_passDay_27 : decode cX2_passDay 27 = .ok (.iadd, 1) := by decide +kernel
theorem dX2_passDay_28 : decode cX2_passDay 28 = .ok (.iaload, 1) := by decide +kernel
theorem dX2_passDay_29 : decode cX2_passDay 29 = .ok (.ifCond .ne 39, 3) := by decide +kernel
theorem dX2_passDay_32 : decode cX2_passDay 32 = .ok (.aload_n 0, 1) := by decide +kernel
theorem dX2_passDay_33 : decode cX2_passDay 33 = .ok (.getfield 21, 3) := by decide +kernel
theorem dX2_passDay_36 : decode cX2_passDay 36 = .ok (.iload_n 1, 1) := by decide +kernel
theorem dX2_passDay_37 : decode cX2_passDay 37 = .ok (.iaload, 1) := by decide +kernel
theorem dX2_passDay_38 : decode cX2_passDay 38 = .ok (.aload_n 0, 1) := by decide +kernel
theorem dX2_passDay_39 : decode cX2_passDay 39 = .ok (.getfield 21, 3) := by decide +kernel
theorem dX2_passDay_42 : decode cX2_passDay 42 = .ok (.iload_n 2, 1) := by decide +kernel
theorem dX2_passDay_43 : decode cX2_passDay 43 = .ok (.iaload, 1) := by decide +kernel
theorem dX2_passDay_44 : decode cX2_passDay 44 = .ok (.invokestatic 107, 3) := by decide +kernel
theorem dX2_passDay_47 : decode cX2_passDay 47 = .ok (.istore_n 3, 1) := by decide +kernel
theorem dX2_passDay_48 : decode cX2_passDay 48 = .ok (.aload_n 0, 1) := by decide +kernel
theorem dX2_passDay_49 : decode cX2_passDay 49 = .ok (.getfield 21, 3) := by decide +kernel
theorem dX2_passDay_52 : decode cX2_passDay 52 = .ok (.iload_n 1, 1) := by decide +kernel
theorem dX2_passDay_53 : decode cX2_passDay 53 = .ok (.dup2, 1) := by decide +kernel
theorem dX2_passDay_54 : decode cX2_passDay 54 = .ok (.iaload, 1) := by decide +kernel
theorem dX2_passDay_55 : decode cX2_passDay 55 = .ok (.iload_n 3, 1) := by decide +kernel
theorem dX2_passDay_56 : decode cX2_passDay 56 = .ok (.isub, 1) := by decide +kernel
theorem dX2_passDay_57 : decode cX2_passDay 57 = .ok (.iastore, 1) := by decide +kernel
theorem dX2_passDay_58 : decode cX2_passDay 58 = .ok (.aload_n 0, 1) := by decide +kernel
theorem dX2_passDay_59 : decode cX2_passDay 59 = .ok (.getfield 21, 3) := by decide +kernel
theorem dX2_passDay_62 : decode cX2_passDay 62 = .ok (.iload_n 2, 1) := by decide +kernel
theorem dX2_passDay_63 : decode cX2_passDay 63 = .ok (.dup2, 1) := by decide +kernel
theorem dX2_passDay_64 : decode cX2_passDay 64 = .ok (.iaload, 1) := by decide +kernel
theorem dX2_passDay_65 : decode cX2_passDay 65 = .ok (.iload_n 3, 1) := by decide +kernel
theorem dX2_passDay_66 : decode cX2_passDay 66 = .ok (.iadd, 1) := by decide +kernel
theorem dX2_passDay_67 : decode cX2_passDay 67 = .ok (.iastore, 1) := by decide +kernel
theorem dX2_passDay_68 : decode cX2_passDay 68 = .ok (.iinc 2 1, 3) := by decide +kernel
theorem dX2_passDay_71 : decode cX2_passDay 71 = .ok (.goto (-59), 3) := by decide +kernel
theorem dX2_passDay_74 : decode cX2_passDay 74 = .ok (.iinc 1 1, 3) := by decide +kernel
theorem dX2_passDay_77 : decode cX2_passDay 77 = .ok (.goto (-75), 3) := by decide +kernel
theorem dX2_passDay_80 : decode cX2_passDay 80 = .ok (.aload_n 0, 1) := by decide +kernel
theorem dX2_passDay_81 : decode cX2_passDay 81 = .ok (.dup, 1) := by decide +kernel
theorem dX2_passDay_82 : decode cX2_passDay 82 = .ok (.getfield 24, 3) := by decide +kernel
theorem dX2_passDay_85 : decode cX2_passDay 85 = .ok (.iconst 1, 1) := by decide +kernel
theorem dX2_passDay_86 : decode cX2_passDay 86 = .ok (.iadd, 1) := by decide +kernel
theorem dX2_passDay_87 : decode cX2_passDay 87 = .ok (.putfield 24, 3) := by decide +kernel
theorem dX2_passDay_90 : decode cX2_passDay 90 = .ok (.return_, 1) := by decide +kernel
theorem dX2_gapMadeBy_0 : decode cX2_gapMadeBy 0 = .ok (.iload_n 1, 1) := by decide +kernel
theorem dX2_gapMadeBy_1 : decode cX2_gapMadeBy 1 = .ok (.iconst 2, 1) := by decide +kernel
theorem dX2_gapMadeBy_2 : decode cX2_gapMadeBy 2 = .ok (.if_icmp .ne 28, 3) := by decide +kernel
theorem dX2_gapMadeBy_5 : decode cX2_gapMadeBy 5 = .ok (.aload_n 0, 1) := by decide +kernel
theorem dX2_gapMadeBy_6 : decode cX2_gapMadeBy 6 = .ok (.iload_n 2, 1) := by decide +kernel
theorem dX2_gapMadeBy_7 : decode cX2_gapMadeBy 7 = .ok (.iload_n 3, 1) := by decide +kernel
theorem dX2_gapMadeBy_8 : decode cX2_gapMadeBy 8 = .ok (.invokevirtual 52, 3) := by decide +kernel
theorem dX2_gapMadeBy_11 : decode cX2_gapMadeBy 11 = .ok (.iconst 1, 1) := by decide +kernel
theorem dX2_gapMadeBy_12 : decode cX2_gapMadeBy 12 = .ok (.if_icmp .ne 18, 3) := by decide +kernel
theorem dX2_gapMadeBy_15 : decode cX2_gapMadeBy 15 = .ok (.bipush 10, 2) := by decide +kernel
theorem dX2_gapMadeBy_17 : decode cX2_gapMadeBy 17 = .ok (.iload_n 2, 1) := by decide +kernel
theorem dX2_gapMadeBy_18 : decode cX2_gapMadeBy 18 = .ok (.iload_n 3, 1) := by decide +kernel
theorem dX2_gapMadeBy_19 : decode cX2_gapMadeBy 19 = .ok (.invokestatic 99, 3) := by decide +kernel
theorem dX2_gapMadeBy_22 : decode cX2_gapMadeBy 22 = .ok (.imul, 1) := by decide +kernel
theorem dX2_gapMadeBy_23 : decode cX2_gapMadeBy 23 = .ok (.iload_n 2, 1) := by decide +kernel
theorem dX2_gapMadeBy_24 : decode cX2_gapMadeBy 24 = .ok (.iload_n 3, 1) := by decide +kernel
theorem dX2_gapMadeBy_25 : decode cX2_gapMadeBy 25 = .ok (.invokestatic 104, 3) := by decide +kernel
theorem dX2_gapMadeBy_28 : decode cX2_gapMadeBy 28 = .ok (.iadd, 1) := by decide +kernel
theorem dX2_gapMadeBy_29 : decode cX2_gapMadeBy 29 = .ok (.ireturn, 1) := by decide +kernel
theorem dX2_gapMadeBy_30 : decode cX2_gapMadeBy 30 = .ok (.iload_n 1, 1) := by decide +kernel
theorem dX2_gapMadeBy_31 : decode cX2_gapMadeBy 31 = .ok (.iconst 3, 1) := by decide +kernel
theorem dX2_gapMadeBy_32 : decode cX2_gapMadeBy 32 = .ok (.if_icmp .ne 11, 3) := by decide +kernel
theorem dX2_gapMadeBy_35 : decode cX2_gapMadeBy 35 = .ok (.aload_n 0, 1) := by decide +kernel
theorem dX2_gapMadeBy_36 : decode cX2_gapMadeBy 36 = .ok (.iload_n 3, 1) := by decide +kernel
theorem dX2_gapMadeBy_37 : decode cX2_gapMadeBy 37 = .ok (.invokevirtual 112, 3) := by decide +kernel
theorem dX2_gapMadeBy_40 : decode cX2_gapMadeBy 40 = .ok (.goto 5, 3) := by decide +kernel
theorem dX2_gapMadeBy_43 : decode cX2_gapMadeBy 43 = .ok (.bipush (-6), 2) := by decide +kernel
theorem dX2_gapMadeBy_45 : decode cX2_gapMadeBy 45 = .ok (.ireturn, 1) := by decide +kernel
theorem dX2_gapMadeByWind_0 : decode cX2_gapMadeByWind 0 = .ok (.iconst 0, 1) := by decide +kernel
theorem dX2_gapMadeByWind_1 : decode cX2_gapMadeByWind 1 = .ok (.istore_n 2, 1) := by decide +kernel
theorem dX2_gapMadeByWind_2 : decode cX2_gapMadeByWind 2 = .ok (.iload_n 2, 1) := by decide +kernel
theorem dX2_gapMadeByWind_3 : decode cX2_gapMadeByWind 3 = .ok (.bipush 7, 2) := by decide +kernel
theorem dX2_gapMadeByWind_5 : decode cX2_gapMadeByWind 5 = .ok (.if_icmp .ge 56, 3) := by decide +kernel
theorem dX2_gapMadeByWind_8 : decode cX2_gapMadeByWind 8 = .ok (.iload_n 2, 1) := by decide +kernel
theorem dX2_gapMadeByWind_9 : decode cX2_gapMadeByWind 9 = .ok (.iconst 1, 1) := by decide +kernel
theorem dX2_gapMadeByWind_10 : decode cX2_gapMadeByWind 10 = .ok (.iadd, 1) := by decide +kernel
theorem dX2_gapMadeByWind_11 : decode cX2_gapMadeByWind 11 = .ok (.istore_n 3, 1) := by decide +kernel
theorem dX2_gapMadeByWind_12 : decode cX2_gapMadeByWind 12 = .ok (.iload_n 3, 1) := by decide +kernel
theorem dX2_gapMadeByWind_13 : decode cX2_gapMadeByWind 13 = .ok (.bipush 7, 2) := by decide +kernel
theorem dX2_gapMadeByWind_15 : decode cX2_gapMadeByWind 15 = .ok (.if_icmp .ge 40, 3) := by decide +kernel
theorem dX2_gapMadeByWind_18 : decode cX2_gapMadeByWind 18 = .ok (.aload_n 0, 1) := by decide +kernel
theorem dX2_gapMadeByWind_19 : decode cX2_gapMadeByWind 19 = .ok (.getfield 9, 3) := by decide +kernel
theorem dX2_gapMadeByWind_22 : decode cX2_gapMadeByWind 22 = .ok (.bipush 7, 2) := by decide +kernel
theorem dX2_gapMadeByWind_24 : decode cX2_gapMadeByWind 24 = .ok (.iload_n 2, 1) := by decide +kernel
theorem dX2_gapMadeByWind_25 : decode cX2_gapMadeByWind 25 = .ok (.imul, 1) := by decide +kernel
theorem dX2_gapMadeByWind_26 : decode cX2_gapMadeByWind 26 = .ok (.iload_n 3, 1) := by decide +kernel
theorem dX2_gapMadeByWind_27 : decode cX2_gapMadeByWind 27 = .ok (.iadd, 1) := by decide +kernel
theorem dX2_gapMadeByWind_28 : decode cX2_gapMadeByWind 28 = .ok (.iaload, 1) := by decide +kernel
theorem dX2_gapMadeByWind_29 : decode cX2_gapMadeByWind 29 = .ok (.istore 4, 2) := by decide +kernel
theorem dX2_gapMadeByWind_31 : decode cX2_gapMadeByWind 31 = .ok (.iload 4, 2) := by decide +kernel
theorem dX2_gapMadeByWind_33 : decode cX2_gapMadeByWind 33 = .ok (.ifCond .le 16, 3) := by decide +kernel
theorem dX2_gapMadeByWind_36 : decode cX2_gapMadeByWind 36 = .ok (.iload 4, 2) := by decide +kernel
theorem dX2_gapMadeByWind_38 : decode cX2_gapMadeByWind 38 = .ok (.iload_n 1, 1) := by decide +kernel
theorem dX2_gapMadeByWind_39 : decode cX2_gapMadeByWind 39 = .ok (.if_icmp .gt 10, 3) := by decide +kernel
theorem dX2_gapMadeByWind_42 : decode cX2_gapMadeByWind 42 = .ok (.bipush 10, 2) := by decide +kernel
theorem dX2_gapMadeByWind_44 : decode cX2_gapMadeByWind 44 = .ok (.iload_n 2, 1) := by decide +kernel
theorem dX2_gapMadeByWind_45 : decode cX2_gapMadeByWind 45 = .ok (.imul, 1) := by decide +kernel
theorem dX2_gapMadeByWind_46 : decode cX2_gapMadeByWind 46 = .ok (.iload_n 3, 1) := by decide +kernel
theorem dX2_gapMadeByWind_47 : decode cX2_gapMadeByWind 47 = .ok (.iadd, 1) := by decide +kernel
theorem dX2_gapMadeByWind_48 : decode cX2_gapMadeByWind 48 = .ok (.ireturn, 1) := by decide +kernel
theorem dX2_gapMadeByWind_49 : decode cX2_gapMadeByWind 49 = .ok (.iinc 3 1, 3) := by decide +kernel
theorem dX2_gapMadeByWind_52 : decode cX2_gapMadeByWind 52 = .ok (.goto (-40), 3) := by decide +kernel
theorem dX2_gapMadeByWind_55 : decode cX2_gapMadeByWind 55 = .ok (.iinc 2 1, 3) := by decide +kernel
theorem dX2_gapMadeByWind_58 : decode cX2_gapMadeByWind 58 = .ok (.goto (-56), 3) := by decide +kernel
theorem dX2_gapMadeByWind_61 : decode cX2_gapMadeByWind 61 = .ok (.bipush (-6), 2) := by decide +kernel
theorem dX2_gapMadeByWind_63 : decode cX2_gapMadeByWind 63 = .ok (.ireturn, 1) := by decide +kernel
theorem dX2_drawActs_0 : decode cX2_drawActs 0 = .ok (.iload_n 1, 1) := by decide +kernel
theorem dX2_drawActs_1 : decode cX2_drawActs 1 = .ok (.istore_n 3, 1) := by decide +kernel
theorem dX2_drawActs_2 : decode cX2_drawActs 2 = .ok (.iconst 0, 1) := by decide +kernel
theorem dX2_drawActs_3 : decode cX2_drawActs 3 = .ok (.istore 4, 2) := by decide +kernel
theorem dX2_drawActs_5 : decode cX2_drawActs 5 = .ok (.iload 4, 2) := by decide +kernel
theorem dX2_drawActs_7 : decode cX2_drawActs 7 = .ok (.iload_n 2, 1) := by decide +kernel
theorem dX2_drawActs_8 : decode cX2_drawActs 8 = .ok (.if_icmp .ge 87, 3) := by decide +kernel
theorem dX2_drawActs_11 : decode cX2_drawActs 11 = .ok (.bipush 75, 2) := by decide +kernel
theorem dX2_drawActs_13 : decode cX2_drawActs 13 = .ok (.iload_n 3, 1) := by decide +kernel
theorem dX2_drawActs_14 : decode cX2_drawActs 14 = .ok (.imul, 1) := by decide +kernel
theorem dX2_drawActs_15 : decode cX2_drawActs 15 = .ok (.bipush 74, 2) := by decide +kernel
theorem dX2_drawActs_17 : decode cX2_drawActs 17 = .ok (.iadd, 1) := by decide +kernel
theorem dX2_drawActs_18 : decode cX2_drawActs 18 = .ok (.ldc 115, 2) := by decide +kernel
theorem dX2_drawActs_20 : decode cX2_drawActs 20 = .ok (.irem, 1) := by decide +kernel
theorem dX2_drawActs_21 : decode cX2_drawActs 21 = .ok (.istore_n 3, 1) := by decide +kernel
theorem dX2_drawActs_22 : decode cX2_drawActs 22 = .ok (.iload_n 3, 1) := by decide +kernel
theorem dX2_drawActs_23 : decode cX2_drawActs 23 = .ok (.bipush 7, 2) := by decide +kernel
theorem dX2_drawActs_25 : decode cX2_drawActs 25 = .ok (.idiv, 1) := by decide +kernel
theorem dX2_drawActs_26 : decode cX2_drawActs 26 = .ok (.bipush 8, 2) := by decide +kernel
theorem dX2_drawActs_28 : decode cX2_drawActs 28 = .ok (.irem, 1) := by decide +kernel
theorem dX2_drawActs_29 : decode cX2_drawActs 29 = .ok (.invokestatic 116, 3) := by decide +kernel
theorem dX2_drawActs_32 : decode cX2_drawActs 32 = .ok (.istore 5, 2) := by decide +kernel
theorem dX2_drawActs_34 : decode cX2_drawActs 34 = .ok (.iload_n 3, 1) := by decide +kernel
theorem dX2_drawActs_35 : decode cX2_drawActs 35 = .ok (.bipush 56, 2) := by decide +kernel
theorem dX2_drawActs_37 : decode cX2_drawActs 37 = .ok (.idiv, 1) := by decide +kernel
theorem dX2_drawActs_38 : decode cX2_drawActs 38 = .ok (.istore 6, 2) := by decide +kernel
theorem dX2_drawActs_40 : decode cX2_drawActs 40 = .ok (.iload 5, 2) := by decide +kernel
theorem dX2_drawActs_42 : decode cX2_drawActs 42 = .ok (.iconst 3, 1) := by decide +kernel
theorem dX2_drawActs_43 : decode cX2_drawActs 43 = .ok (.if_icmp .ne 12, 3) := by decide +kernel
theorem dX2_drawActs_46 : decode cX2_drawActs 46 = .ok (.iconst 1, 1) := by decide +kernel
theorem dX2_drawActs_47 : decode cX2_drawActs 47 = .ok (.iload 6, 2) := by decide +kernel
theorem dX2_drawActs_49 : decode cX2_drawActs 49 = .ok (.iconst 3, 1) := by decide +kernel
theorem dX2_drawActs_50 : decode cX2_drawActs 50 = .ok (.irem, 1) := by decide +kernel
theorem dX2_drawActs_51 : decode cX2_drawActs 51 = .ok (.iadd, 1) := by decide +kernel
theorem dX2_drawActs_52 : decode cX2_drawActs 52 = .ok (.goto 8, 3) := by decide +kernel
theorem dX2_drawActs_55 : decode cX2_drawActs 55 = .ok (.iload 6, 2) := by decide +kernel
theorem dX2_drawActs_57 : decode cX2_drawActs 57 = .ok (.bipush 7, 2) := by decide +kernel
theorem dX2_drawActs_59 : decode cX2_drawActs 59 = .ok (.irem, 1) := by decide +kernel
theorem dX2_drawActs_60 : decode cX2_drawActs 60 = .ok (.istore 7, 2) := by decide +kernel
theorem dX2_drawActs_62 : decode cX2_drawActs 62 = .ok (.aload_n 0, 1) := by decide +kernel
theorem dX2_drawActs_63 : decode cX2_drawActs 63 = .ok (.iload 5, 2) := by decide +kernel
theorem dX2_drawActs_65 : decode cX2_drawActs 65 = .ok (.iload_n 3, 1) := by decide +kernel
theorem dX2_drawActs_66 : decode cX2_drawActs 66 = .ok (.bipush 7, 2) := by decide +kernel
theorem dX2_drawActs_68 : decode cX2_drawActs 68 = .ok (.irem, 1) := by decide +kernel
theorem dX2_drawActs_69 : decode cX2_drawActs 69 = .ok (.iload 7, 2) := by decide +kernel
theorem dX2_drawActs_71 : decode cX2_drawActs 71 = .ok (.invokevirtual 119, 3) := by decide +kernel
theorem dX2_drawActs_74 : decode cX2_drawActs 74 = .ok (.ifCond .ne 15, 3) := by decide +kernel
theorem dX2_drawActs_77 : decode cX2_drawActs 77 = .ok (.aload_n 0, 1) := by decide +kernel
theorem dX2_drawActs_78 : decode cX2_drawActs 78 = .ok (.iload 5, 2) := by decide +kernel
theorem dX2_drawActs_80 : decode cX2_drawActs 80 = .ok (.iload_n 3, 1) := by decide +kernel
theorem dX2_drawActs_81 : decode cX2_drawActs 81 = .ok (.bipush 7, 2) := by decide +kernel
theorem dX2_drawActs_83 : decode cX2_drawActs 83 = .ok (.irem, 1) := by decide +kernel
theorem dX2_drawActs_84 : decode cX2_drawActs 84 = .ok (.iload 7, 2) := by decide +kernel
theorem dX2_drawActs_86 : decode cX2_drawActs 86 = .ok (.invokevirtual 123, 3) := by decide +kernel
theorem dX2_drawActs_89 : decode cX2_drawActs 89 = .ok (.iinc 4 1, 3) := by decide +kernel
theorem dX2_drawActs_92 : decode cX2_drawActs 92 = .ok (.goto (-87), 3) := by decide +kernel
theorem dX2_drawActs_95 : decode cX2_drawActs 95 = .ok (.return_, 1) := by decide +kernel
theorem dX2_drawnKind_0 : decode cX2_drawnKind 0 = .ok (.iload_n 0, 1) := by decide +kernel
theorem dX2_drawnKind_1 : decode cX2_drawnKind 1 = .ok (.iconst 2, 1) := by decide +kernel
theorem dX2_drawnKind_2 : decode cX2_drawnKind 2 = .ok (.if_icmp .gt 5, 3) := by decide +kernel
theorem dX2_drawnKind_5 : decode cX2_drawnKind 5 = .ok (.iconst 0, 1) := by decide +kernel
theorem dX2_drawnKind_6 : decode cX2_drawnKind 6 = .ok (.ireturn, 1) := by decide +kernel
theorem dX2_drawnKind_7 : decode cX2_drawnKind 7 = .ok (.iload_n 0, 1) := by decide +kernel
theorem dX2_drawnKind_8 : decode cX2_drawnKind 8 = .ok (.tableswitch 34 3 5 #[28, 30, 32], 28) := by decide +kernel
theorem dX2_drawnKind_36 : decode cX2_drawnKind 36 = .ok (.iconst 1, 1) := by decide +kernel
theorem dX2_drawnKind_37 : decode cX2_drawnKind 37 = .ok (.ireturn, 1) := by decide +kernel
theorem dX2_drawnKind_38 : decode cX2_drawnKind 38 = .ok (.iconst 2, 1) := by decide +kernel
theorem dX2_drawnKind_39 : decode cX2_drawnKind 39 = .ok (.ireturn, 1) := by decide +kernel
theorem dX2_drawnKind_40 : decode cX2_drawnKind 40 = .ok (.iconst 3, 1) := by decide +kernel
theorem dX2_drawnKind_41 : decode cX2_drawnKind 41 = .ok (.ireturn, 1) := by decide +kernel
theorem dX2_drawnKind_42 : decode cX2_drawnKind 42 = .ok (.iconst 4, 1) := by decide +kernel
theorem dX2_drawnKind_43 : decode cX2_drawnKind 43 = .ok (.ireturn, 1) := by decide +kernel
theorem dX3_init_0 : decode cX3_init 0 = .ok (.aload_n 0, 1) := by decide +kernel
theorem dX3_init_1 : decode cX3_init 1 = .ok (.invokespecial 3, 3) := by decide +kernel
theorem dX3_init_4 : decode cX3_init 4 = .ok (.aload_n 0, 1) := by decide +kernel
theorem dX3_init_5 : decode cX3_init 5 = .ok (.bipush 60, 2) := by decide +kernel
theorem dX3_init_7 : decode cX3_init 7 = .ok (.newarray .int, 2) := by decide +kernel
theorem dX3_init_9 : decode cX3_init 9 = .ok (.putfield 9, 3) := by decide +kernel
theorem dX3_init_12 : decode cX3_init 12 = .ok (.aload_n 0, 1) := by decide +kernel
theorem dX3_init_13 : decode cX3_init 13 = .ok (.iconst 0, 1) := by decide +kernel
theorem dX3_init_14 : decode cX3_init 14 = .ok (.putfield 15, 3) := by decide +kernel
theorem dX3_init_17 : decode cX3_init 17 = .ok (.return_, 1) := by decide +kernel
theorem dX3_size_0 : decode cX3_size 0 = .ok (.aload_n 0, 1) := by decide +kernel
theorem dX3_size_1 : decode cX3_size 1 = .ok (.getfield 15, 3) := by decide +kernel
theorem dX3_size_4 : decode cX3_size 4 = .ok (.ireturn, 1) := by decide +kernel
theorem dX3_clear_0 : decode cX3_clear 0 = .ok (.aload_n 0, 1) := by decide +kernel
theorem dX3_clear_1 : decode cX3_clear 1 = .ok (.iconst 0, 1) := by decide +kernel
theorem dX3_clear_2 : decode cX3_clear 2 = .ok (.putfield 15, 3) := by decide +kernel
theorem dX3_clear_5 : decode cX3_clear 5 = .ok (.return_, 1) := by decide +kernel
theorem dX3_add_0 : decode cX3_add 0 = .ok (.aload_n 0, 1) := by decide +kernel
theorem dX3_add_1 : decode cX3_add 1 = .ok (.getfield 15, 3) := by decide +kernel
theorem dX3_add_4 : decode cX3_add 4 = .ok (.bipush 60, 2) := by decide +kernel
theorem dX3_add_6 : decode cX3_add 6 = .ok (.if_icmp .lt 5, 3) := by decide +kernel
theorem dX3_add_9 : decode cX3_add 9 = .ok (.iconst 0, 1) := by decide +kernel
theorem dX3_add_10 : decode cX3_add 10 = .ok (.ireturn, 1) := by decide +kernel
theorem dX3_add_11 : decode cX3_add 11 = .ok (.aload_n 0, 1) := by decide +kernel
theorem dX3_add_12 : decode cX3_add 12 = .ok (.getfield 9, 3) := by decide +kernel
theorem dX3_add_15 : decode cX3_add 15 = .ok (.aload_n 0, 1) := by decide +kernel
theorem dX3_add_16 : decode cX3_add 16 = .ok (.getfield 15, 3) := by decide +kernel
theorem dX3_add_19 : decode cX3_add 19 = .ok (.iload_n 1, 1) := by decide +kernel
theorem dX3_add_20 : decode cX3_add 20 = .ok (.iastore, 1) := by decide +kernel
theorem dX3_add_21 : decode cX3_add 21 = .ok (.aload_n 0, 1) := by decide +kernel
theorem dX3_add_22 : decode cX3_add 22 = .ok (.dup, 1) := by decide +kernel
theorem dX3_add_23 : decode cX3_add 23 = .ok (.getfield 15, 3) := by decide +kernel
theorem dX3_add_26 : decode cX3_add 26 = .ok (.iconst 1, 1) := by decide +kernel
theorem dX3_add_27 : decode cX3_add 27 = .ok (.iadd, 1) := by decide +kernel
theorem dX3_add_28 : decode cX3_add 28 = .ok (.putfield 15, 3) := by decide +kernel
theorem dX3_add_31 : decode cX3_add 31 = .ok (.iconst 1, 1) := by decide +kernel
theorem dX3_add_32 : decode cX3_add 32 = .ok (.ireturn, 1) := by decide +kernel
theorem dX3_faultPlace_0 : decode cX3_faultPlace 0 = .ok (.iconst 0, 1) := by decide +kernel
theorem dX3_faultPlace_1 : decode cX3_faultPlace 1 = .ok (.istore_n 1, 1) := by decide +kernel
theorem dX3_faultPlace_2 : decode cX3_faultPlace 2 = .ok (.iconst 0, 1) := by decide +kernel
theorem dX3_faultPlace_3 : decode cX3_faultPlace 3 = .ok (.istore_n 2, 1) := by decide +kernel
theorem dX3_faultPlace_4 : decode cX3_faultPlace 4 = .ok (.iload_n 2, 1) := by decide +kernel
theorem dX3_faultPlace_5 : decode cX3_faultPlace 5 = .ok (.aload_n 0, 1) := by decide +kernel
theorem dX3_faultPlace_6 : decode cX3_faultPlace 6 = .ok (.getfield 15, 3) := by decide +kernel
theorem dX3_faultPlace_9 : decode cX3_faultPlace 9 = .ok (.if_icmp .ge 27, 3) := by decide +kernel
theorem dX3_faultPlace_12 : decode cX3_faultPlace 12 = .ok (.iload_n 1, 1) := by decide +kernel
theorem dX3_faultPlace_13 : decode cX3_faultPlace 13 = .ok (.aload_n 0, 1) := by decide +kernel
theorem dX3_faultPlace_14 : decode cX3_faultPlace 14 = .ok (.getfield 9, 3) := by decide +kernel
theorem dX3_faultPlace_17 : decode cX3_faultPlace 17 = .ok (.iload_n 2, 1) := by decide +kernel
theorem dX3_faultPlace_18 : decode cX3_faultPlace 18 = .ok (.iaload, 1) := by decide +kernel
theorem dX3_faultPlace_19 : decode cX3_faultPlace 19 = .ok (.invokestatic 19, 3) := by decide +kernel
theorem dX3_faultPlace_22 : decode cX3_faultPlace 22 = .ok (.istore_n 1, 1) := by decide +kernel
theorem dX3_faultPlace_23 : decode cX3_faultPlace 23 = .ok (.iload_n 1, 1) := by decide +kernel
theorem dX3_faultPlace_24 : decode cX3_faultPlace 24 = .ok (.iconst 4, 1) := by decide +kernel
theorem dX3_faultPlace_25 : decode cX3_faultPlace 25 = .ok (.if_icmp .ne 5, 3) := by decide +kernel
theorem dX3_faultPlace_28 : decode cX3_faultPlace 28 = .ok (.iload_n 2, 1) := by decide +kernel
theorem dX3_faultPlace_29 : decode cX3_faultPlace 29 = .ok (.ireturn, 1) := by decide +kernel
theorem dX3_faultPlace_30 : decode cX3_faultPlace 30 = .ok (.iinc 2 1, 3) := by decide +kernel
theorem dX3_faultPlace_33 : decode cX3_faultPlace 33 = .ok (.goto (-29), 3) := by decide +kernel
theorem dX3_faultPlace_36 : decode cX3_faultPlace 36 = .ok (.iload_n 1, 1) := by decide +kernel
theorem dX3_faultPlace_37 : decode cX3_faultPlace 37 = .ok (.ifCond .ne 8, 3) := by decide +kernel
theorem dX3_faultPlace_40 : decode cX3_faultPlace 40 = .ok (.bipush (-6), 2) := by decide +kernel
theorem dX3_faultPlace_42 : decode cX3_faultPlace 42 = .ok (.goto 7, 3) := by decide +kernel
theorem dX3_faultPlace_45 : decode cX3_faultPlace 45 = .ok (.aload_n 0, 1) := by decide +kernel
theorem dX3_faultPlace_46 : decode cX3_faultPlace 46 = .ok (.getfield 15, 3) := by decide +kernel
theorem dX3_faultPlace_49 : decode cX3_faultPlace 49 = .ok (.ireturn, 1) := by decide +kernel
theorem dX3_nextAfter_0 : decode cX3_nextAfter 0 = .ok (.iload_n 0, 1) := by decide +kernel
theorem dX3_nextAfter_1 : decode cX3_nextAfter 1 = .ok (.tableswitch 78 0 2 #[27, 32, 62], 27) := by decide +kernel
theorem dX3_nextAfter_28 : decode cX3_nextAfter 28 = .ok (.iload_n 1, 1) := by decide +kernel
theorem dX3_nextAfter_29 : decode cX3_nextAfter 29 = .ok (.invokestatic 23, 3) := by decide +kernel
theorem dX3_nextAfter_32 : decode cX3_nextAfter 32 = .ok (.ireturn, 1) := by decide +kernel
theorem dX3_nextAfter_33 : decode cX3_nextAfter 33 = .ok (.iload_n 1, 1) := by decide +kernel
theorem dX3_nextAfter_34 : decode cX3_nextAfter 34 = .ok (.bipush 33, 2) := by decide +kernel
theorem dX3_nextAfter_36 : decode cX3_nextAfter 36 = .ok (.if_icmp .ne 5, 3) := by decide +kernel
theorem dX3_nextAfter_39 : decode cX3_nextAfter 39 = .ok (.iconst 2, 1) := by decide +kernel
theorem dX3_nextAfter_40 : decode cX3_nextAfter 40 = .ok (.ireturn, 1) := by decide +kernel
theorem dX3_nextAfter_41 : decode cX3_nextAfter 41 = .ok (.iload_n 1, 1) := by decide +kernel
theorem dX3_nextAfter_42 : decode cX3_nextAfter 42 = .ok (.bipush 42, 2) := by decide +kernel
theorem dX3_nextAfter_44 : decode cX3_nextAfter 44 = .ok (.if_icmp .eq 13, 3) := by decide +kernel
theorem dX3_nextAfter_47 : decode cX3_nextAfter 47 = .ok (.iload_n 1, 1) := by decide +kernel
theorem dX3_nextAfter_48 : decode cX3_nextAfter 48 = .ok (.bipush 97, 2) := by decide +kernel
theorem dX3_nextAfter_50 : decode cX3_nextAfter 50 = .ok (.isub, 1) := by decide +kernel
theorem dX3_nextAfter_51 : decode cX3_nextAfter 51 = .ok (.invokestatic 27, 3) := by decide +kernel
theorem dX3_nextAfter_54 : decode cX3_nextAfter 54 = .ok (.ifCond .eq 7, 3) := by decide +kernel
theorem dX3_nextAfter_57 : decode cX3_nextAfter 57 = .ok (.iconst 0, 1) := by decide +kernel
theorem dX3_nextAfter_58 : decode cX3_nextAfter 58 = .ok (.goto 4, 3) := by decide +kernel
theorem dX3_nextAfter_61 : decode cX3_nextAfter 61 = .ok (.iconst 4, 1) := by decide +kernel
theorem dX3_nextAfter_62 : decode cX3_nextAfter 62 = .ok (.ireturn, 1) := by decide +kernel
theorem dX3_nextAfter_63 : decode cX3_nextAfter 63 = .ok (.iload_n 1, 1) := by decide +kernel
theorem dX3_nextAfter_64 : decode cX3_nextAfter 64 = .ok (.bipush 97, 2) := by decide +kernel
theorem dX3_nextAfter_66 : decode cX3_nextAfter 66 = .ok (.isub, 1) := by decide +kernel
theorem dX3_nextAfter_67 : decode cX3_nextAfter 67 = .ok (.invokestatic 27, 3) := by decide +kernel
theorem dX3_nextAfter_70 : decode cX3_nextAfter 70 = .ok (.ifCond .eq 7, 3) := by decide +kernel
theorem dX3_nextAfter_73 : decode cX3_nextAfter 73 = .ok (.iconst 0, 1) := by decide +kernel
theorem dX3_nextAfter_74 : decode cX3_nextAfter 74 = .ok (.goto 4, 3) := by decide +kernel
theorem dX3_nextAfter_77 : decode cX3_nextAfter 77 = .ok (.iconst 4, 1) := by decide +kernel
theorem dX3_nextAfter_78 : decode cX3_nextAfter 78 = .ok (.ireturn, 1) := by decide +kernel
theorem dX3_nextAfter_79 : decode cX3_nextAfter 79 = .ok (.iload_n 1, 1) := by decide +kernel
theorem dX3_nextAfter_80 : decode cX3_nextAfter 80 = .ok (.bipush 49, 2) := by decide +kernel
theorem dX3_nextAfter_82 : decode cX3_nextAfter 82 = .ok (.if_icmp .lt 13, 3) := by decide +kernel
theorem dX3_nextAfter_85 : decode cX3_nextAfter 85 = .ok (.iload_n 1, 1) := by decide +kernel
theorem dX3_nextAfter_86 : decode cX3_nextAfter 86 = .ok (.bipush 57, 2) := by decide +kernel
theorem dX3_nextAfter_88 : decode cX3_nextAfter 88 = .ok (.if_icmp .gt 7, 3) := by decide +kernel
theorem dX3_nextAfter_91 : decode cX3_nextAfter 91 = .ok (.iconst 0, 1) := by decide +kernel
theorem dX3_nextAfter_92 : decode cX3_nextAfter 92 = .ok (.goto 4, 3) := by decide +kernel
theorem dX3_nextAfter_95 : decode cX3_nextAfter 95 = .ok (.iconst 4, 1) := by decide +kernel
theorem dX3_nextAfter_96 : decode cX3_nextAfter 96 = .ok (.ireturn, 1) := by decide +kernel
theorem dX3_nextAfterStart_0 : decode cX3_nextAfterStart 0 = .ok (.iload_n 0, 1) := by decide +kernel
theorem dX3_nextAfterStart_1 : decode cX3_nextAfterStart 1 = .ok (.bipush 46, 2) := by decide +kernel
theorem dX3_nextAfterStart_3 : decode cX3_nextAfterStart 3 = .ok (.if_icmp .ne 5, 3) := by decide +kernel
theorem dX3_nextAfterStart_6 : decode cX3_nextAfterStart 6 = .ok (.iconst 0, 1) := by decide +kernel
theorem dX3_nextAfterStart_7 : decode cX3_nextAfterStart 7 = .ok (.ireturn, 1) := by decide +kernel
theorem dX3_nextAfterStart_8 : decode cX3_nextAfterStart 8 = .ok (.iload_n 0, 1) := by decide +kernel
theorem dX3_nextAfterStart_9 : decode cX3_nextAfterStart 9 = .ok (.bipush 119, 2) := by decide +kernel
theorem dX3_nextAfterStart_11 : decode cX3_nextAfterStart 11 = .ok (.if_icmp .ne 5, 3) := by decide +kernel
theorem dX3_nextAfterStart_14 : decode cX3_nextAfterStart 14 = .ok (.iconst 3, 1) := by decide +kernel
theorem dX3_nextAfterStart_15 : decode cX3_nextAfterStart 15 = .ok (.ireturn, 1) := by decide +kernel
theorem dX3_nextAfterStart_16 : decode cX3_nextAfterStart 16 = .ok (.iload_n 0, 1) := by decide +kernel
theorem dX3_nextAfterStart_17 : decode cX3_nextAfterStart 17 = .ok (.bipush 65, 2) := by decide +kernel
theorem dX3_nextAfterStart_19 : decode cX3_nextAfterStart 19 = .ok (.isub, 1) := by decide +kernel
theorem dX3_nextAfterStart_20 : decode cX3_nextAfterStart 20 = .ok (.invokestatic 27, 3) := by decide +kernel
theorem dX3_nextAfterStart_23 : decode cX3_nextAfterStart 23 = .ok (.ifCond .eq 7, 3) := by decide +kernel
theorem dX3_nextAfterStart_26 : decode cX3_nextAfterStart 26 = .ok (.iconst 1, 1) := by decide +kernel
theorem dX3_nextAfterStart_27 : decode cX3_nextAfterStart 27 = .ok (.goto 4, 3) := by decide +kernel
theorem dX3_nextAfterStart_30 : decode cX3_nextAfterStart 30 = .ok (.iconst 4, 1) := by decide +kernel
theorem dX3_nextAfterStart_31 : decode cX3_nextAfterStart 31 = .ok (.ireturn, 1) := by decide +kernel
theorem dX3_signAt_0 : decode cX3_signAt 0 = .ok (.iload_n 1, 1) := by decide +kernel
theorem dX3_signAt_1 : decode cX3_signAt 1 = .ok (.ifCond .lt 20, 3) := by decide +kernel
theorem dX3_signAt_4 : decode cX3_signAt 4 = .ok (.iload_n 1, 1) := by decide +kernel
theorem dX3_signAt_5 : decode cX3_signAt 5 = .ok (.aload_n 0, 1) := by decide +kernel
theorem dX3_signAt_6 : decode cX3_signAt 6 = .ok (.getfield 15, 3) := by decide +kernel
theorem dX3_signAt_9 : decode cX3_signAt 9 = .ok (.if_icmp .ge 12, 3) := by decide +kernel
theorem dX3_signAt_12 : decode cX3_signAt 12 = .ok (.aload_n 0, 1) := by decide +kernel
theorem dX3_signAt_13 : decode cX3_signAt 13 = .ok (.getfield 9, 3) := by decide +kernel
theorem dX3_signAt_16 : decode cX3_signAt 16 = .ok (.iload_n 1, 1) := by decide +kernel
theorem dX3_signAt_17 : decode cX3_signAt 17 = .ok (.iaload, 1) := by decide +kernel
theorem dX3_signAt_18 : decode cX3_signAt 18 = .ok (.goto 4, 3) := by decide +kernel
theorem dX3_signAt_21 : decode cX3_signAt 21 = .ok (.iconst 0, 1) := by decide +kernel
theorem dX3_signAt_22 : decode cX3_signAt 22 = .ok (.ireturn, 1) := by decide +kernel
theorem dX3_kindAt_0 : decode cX3_kindAt 0 = .ok (.aload_n 0, 1) := by decide +kernel
theorem dX3_kindAt_1 : decode cX3_kindAt 1 = .ok (.iload_n 1, 1) := by decide +kernel
theorem dX3_kindAt_2 : decode cX3_kindAt 2 = .ok (.invokevirtual 31, 3) := by decide +kernel
theorem dX3_kindAt_5 : decode cX3_kindAt 5 = .ok (.lookupswitch 31 #[(46, 27), (119, 29)], 27) := by decide +kernel
theorem dX3_kindAt_32 : decode cX3_kindAt 32 = .ok (.iconst 4, 1) := by decide +kernel
theorem dX3_kindAt_33 : decode cX3_kindAt 33 = .ok (.ireturn, 1) := by decide +kernel
theorem dX3_kindAt_34 : decode cX3_kindAt 34 = .ok (.iconst 3, 1) := by decide +kernel
theorem dX3_kindAt_35 : decode cX3_kindAt 35 = .ok (.ireturn, 1) := by decide +kernel
theorem dX3_kindAt_36 : decode cX3_kindAt 36 = .ok (.aload_n 0, 1) := by decide +kernel
theorem dX3_kindAt_37 : decode cX3_kindAt 37 = .ok (.iload_n 1, 1) := by decide +kernel
theorem dX3_kindAt_38 : decode cX3_kindAt 38 = .ok (.iconst 1, 1) := by decide +kernel
theorem dX3_kindAt_39 : decode cX3_kindAt 39 = .ok (.iadd, 1) := by decide +kernel
theorem dX3_kindAt_40 : decode cX3_kindAt 40 = .ok (.invokevirtual 31, 3) := by decide +kernel
theorem dX3_kindAt_43 : decode cX3_kindAt 43 = .ok (.invokestatic 34, 3) := by decide +kernel
theorem dX3_kindAt_46 : decode cX3_kindAt 46 = .ok (.ireturn, 1) := by decide +kernel
theorem dX3_deedKind_0 : decode cX3_deedKind 0 = .ok (.iload_n 0, 1) := by decide +kernel
theorem dX3_deedKind_1 : decode cX3_deedKind 1 = .ok (.lookupswitch 31 #[(33, 29), (42, 27)], 27) := by decide +kernel
theorem dX3_deedKind_28 : decode cX3_deedKind 28 = .ok (.iconst 1, 1) := by decide +kernel
theorem dX3_deedKind_29 : decode cX3_deedKind 29 = .ok (.ireturn, 1) := by decide +kernel
theorem dX3_deedKind_30 : decode cX3_deedKind 30 = .ok (.iconst 2, 1) := by decide +kernel
theorem dX3_deedKind_31 : decode cX3_deedKind 31 = .ok (.ireturn, 1) := by decide +kernel
theorem dX3_deedKind_32 : decode cX3_deedKind 32 = .ok (.iconst 0, 1) := by decide +kernel
theorem dX3_deedKind_33 : decode cX3_deedKind 33 = .ok (.ireturn, 1) := by decide +kernel
theorem dX3_manAt_0 : decode cX3_manAt 0 = .ok (.aload_n 0, 1) := by decide +kernel
theorem dX3_manAt_1 : decode cX3_manAt 1 = .ok (.iload_n 1, 1) := by decide +kernel
theorem dX3_manAt_2 : decode cX3_manAt 2 = .ok (.invokevirtual 31, 3) := by decide +kernel
theorem dX3_manAt_5 : decode cX3_manAt 5 = .ok (.bipush 65, 2) := by decide +kernel
theorem dX3_manAt_7 : decode cX3_manAt 7 = .ok (.isub, 1) := by decide +kernel
theorem dX3_manAt_8 : decode cX3_manAt 8 = .ok (.ireturn, 1) := by decide +kernel
theorem dX3_numberAt_0 : decode cX3_numberAt 0 = .ok (.iload_n 2, 1) := by decide +kernel
theorem dX3_numberAt_1 : decode cX3_numberAt 1 = .ok (.tableswitch 64 0 3 #[31, 64, 42, 53], 31) := by decide +kernel
theorem dX3_numberAt_32 : decode cX3_numberAt 32 = .ok (.aload_n 0, 1) := by decide +kernel
theorem dX3_numberAt_33 : decode cX3_numberAt 33 = .ok (.iload_n 1, 1) := by decide +kernel
theorem dX3_numberAt_34 : decode cX3_numberAt 34 = .ok (.iconst 1, 1) := by decide +kernel
theorem dX3_numberAt_35 : decode cX3_numberAt 35 = .ok (.iadd, 1) := by decide +kernel
theorem dX3_numberAt_36 : decode cX3_numberAt 36 = .ok (.invokevirtual 31, 3) := by decide +kernel
theorem dX3_numberAt_39 : decode cX3_numberAt 39 = .ok (.bipush 97, 2) := by decide +kernel
theorem dX3_numberAt_41 : decode cX3_numberAt 41 = .ok (.isub, 1) := by decide +kernel
theorem dX3_numberAt_42 : decode cX3_numberAt 42 = .ok (.ireturn, 1) := by decide +kernel
theorem dX3_numberAt_43 : decode cX3_numberAt 43 = .ok (.aload_n 0, 1) := by decide +kernel
theorem dX3_numberAt_44 : decode cX3_numberAt 44 = .ok (.iload_n 1, 1) := by decide +kernel
theorem dX3_numberAt_45 : decode cX3_numberAt 45 = .ok (.iconst 2, 1) := by decide +kernel
theorem dX3_numberAt_46 : decode cX3_numberAt 46 = .ok (.iadd, 1) := by decide +kernel
theorem dX3_numberAt_47 : decode cX3_numberAt 47 = .ok (.invokevirtual 31, 3) := by decide +kernel
theorem dX3_numberAt_50 : decode cX3_numberAt 50 = .ok (.bipush 97, 2) := by decide +kernel
theorem dX3_numberAt_52 : decode cX3_numberAt 52 = .ok (.isub, 1) := by decide +kernel
theorem dX3_numberAt_53 : decode cX3_numberAt 53 = .ok (.ireturn, 1) := by decide +kernel
theorem dX3_numberAt_54 : decode cX3_numberAt 54 = .ok (.aload_n 0, 1) := by decide +kernel
theorem dX3_numberAt_55 : decode cX3_numberAt 55 = .ok (.iload_n 1, 1) := by decide +kernel
theorem dX3_numberAt_56 : decode cX3_numberAt 56 = .ok (.iconst 1, 1) := by decide +kernel
theorem dX3_numberAt_57 : decode cX3_numberAt 57 = .ok (.iadd, 1) := by decide +kernel
theorem dX3_numberAt_58 : decode cX3_numberAt 58 = .ok (.invokevirtual 31, 3) := by decide +kernel
theorem dX3_numberAt_61 : decode cX3_numberAt 61 = .ok (.bipush 48, 2) := by decide +kernel
theorem dX3_numberAt_63 : decode cX3_numberAt 63 = .ok (.isub, 1) := by decide +kernel
theorem dX3_numberAt_64 : decode cX3_numberAt 64 = .ok (.ireturn, 1) := by decide +kernel
theorem dX3_numberAt_65 : decode cX3_numberAt 65 = .ok (.iconst 0, 1) := by decide +kernel
theorem dX3_numberAt_66 : decode cX3_numberAt 66 = .ok (.ireturn, 1) := by decide +kernel
theorem dX3_lengthOf_0 : decode cX3_lengthOf 0 = .ok (.iload_n 0, 1) := by decide +kernel
theorem dX3_lengthOf_1 : decode cX3_lengthOf 1 = .ok (.lookupswitch 31 #[(2, 29), (4, 27)], 27) := by decide +kernel
theorem dX3_lengthOf_28 : decode cX3_lengthOf 28 = .ok (.iconst 1, 1) := by decide +kernel
theorem dX3_lengthOf_29 : decode cX3_lengthOf 29 = .ok (.ireturn, 1) := by decide +kernel
theorem dX3_lengthOf_30 : decode cX3_lengthOf 30 = .ok (.iconst 3, 1) := by decide +kernel
theorem dX3_lengthOf_31 : decode cX3_lengthOf 31 = .ok (.ireturn, 1) := by decide +kernel
theorem dX3_lengthOf_32 : decode cX3_lengthOf 32 = .ok (.iconst 2, 1) := by decide +kernel
theorem dX3_lengthOf_33 : decode cX3_lengthOf 33 = .ok (.ireturn, 1) := by decide +kernel
theorem dX4_init_0 : decode cX4_init 0 = .ok (.aload_n 0, 1) := by decide +kernel
theorem dX4_init_1 : decode cX4_init 1 = .ok (.invokespecial 3, 3) := by decide +kernel
theorem dX4_init_4 : decode cX4_init 4 = .ok (.aload_n 0, 1) := by decide +kernel
theorem dX4_init_5 : decode cX4_init 5 = .ok (.bipush 61, 2) := by decide +kernel
theorem dX4_init_7 : decode cX4_init 7 = .ok (.newarray .int, 2) := by decide +kernel
theorem dX4_init_9 : decode cX4_init 9 = .ok (.putfield 9, 3) := by decide +kernel
theorem dX4_init_12 : decode cX4_init 12 = .ok (.iconst 0, 1) := by decide +kernel
theorem dX4_init_13 : decode cX4_init 13 = .ok (.istore_n 1, 1) := by decide +kernel
theorem dX4_init_14 : decode cX4_init 14 = .ok (.iload_n 1, 1) := by decide +kernel
theorem dX4_init_15 : decode cX4_init 15 = .ok (.bipush 60, 2) := by decide +kernel
theorem dX4_init_17 : decode cX4_init 17 = .ok (.if_icmp .gt 56, 3) := by decide +kernel
theorem dX4_init_20 : decode cX4_init 20 = .ok (.iconst 0, 1) := by decide +kernel
theorem dX4_init_21 : decode cX4_init 21 = .ok (.istore_n 2, 1) := by decide +kernel
theorem dX4_init_22 : decode cX4_init 22 = .ok (.iconst 1, 1) := by decide +kernel
theorem dX4_init_23 : decode cX4_init 23 = .ok (.istore_n 3, 1) := by decide +kernel
theorem dX4_init_24 : decode cX4_init 24 = .ok (.iconst 2, 1) := by decide +kernel
theorem dX4_init_25 : decode cX4_init 25 = .ok (.iload_n 3, 1) := by decide +kernel
theorem dX4_init_26 : decode cX4_init 26 = .ok (.imul, 1) := by decide +kernel
theorem dX4_init_27 : decode cX4_init 27 = .ok (.iload_n 1, 1) := by decide +kernel
theorem dX4_init_28 : decode cX4_init 28 = .ok (.if_icmp .ge 29, 3) := by decide +kernel
theorem dX4_init_31 : decode cX4_init 31 = .ok (.iload_n 2, 1) := by decide +kernel
theorem dX4_init_32 : decode cX4_init 32 = .ok (.iconst 1, 1) := by decide +kernel
theorem dX4_init_33 : decode cX4_init 33 = .ok (.aload_n 0, 1) := by decide +kernel
theorem dX4_init_34 : decode cX4_init 34 = .ok (.getfield 9, 3) := by decide +kernel
theorem dX4_init_37 : decode cX4_init 37 = .ok (.iload_n 3, 1) := by decide +kernel
theorem dX4_init_38 : decode cX4_init 38 = .ok (.iaload, 1) := by decide +kernel
theorem dX4_init_39 : decode cX4_init 39 = .ok (.aload_n 0, 1) := by decide +kernel
theorem dX4_init_40 : decode cX4_init 40 = .ok (.getfield 9, 3) := by decide +kernel
theorem dX4_init_43 : decode cX4_init 43 = .ok (.iload_n 1, 1) := by decide +kernel
theorem dX4_init_44 : decode cX4_init 44 = .ok (.iload_n 3, 1) := by decide +kernel
theorem dX4_init_45 : decode cX4_init 45 = .ok (.isub, 1) := by decide +kernel
theorem dX4_init_46 : decode cX4_init 46 = .ok (.iaload, 1) := by decide +kernel
theorem dX4_init_47 : decode cX4_init 47 = .ok (.ixor, 1) := by decide +kernel
theorem dX4_init_48 : decode cX4_init 48 = .ok (.ishl, 1) := by decide +kernel
theorem dX4_init_49 : decode cX4_init 49 = .ok (.ior, 1) := by decide +kernel
theorem dX4_init_50 : decode cX4_init 50 = .ok (.istore_n 2, 1) := by decide +kernel
theorem dX4_init_51 : decode cX4_init 51 = .ok (.iinc 3 1, 3) := by decide +kernel
theorem dX4_init_54 : decode cX4_init 54 = .ok (.goto (-30), 3) := by decide +kernel
theorem dX4_init_57 : decode cX4_init 57 = .ok (.aload_n 0, 1) := by decide +kernel
theorem dX4_init_58 : decode cX4_init 58 = .ok (.getfield 9, 3) := by decide +kernel
theorem dX4_init_61 : decode cX4_init 61 = .ok (.iload_n 1, 1) := by decide +kernel
theorem dX4_init_62 : decode cX4_init 62 = .ok (.iload_n 2, 1) := by decide +kernel
theorem dX4_init_63 : decode cX4_init 63 = .ok (.invokestatic 15, 3) := by decide +kernel
theorem dX4_init_66 : decode cX4_init 66 = .ok (.iastore, 1) := by decide +kernel
theorem dX4_init_67 : decode cX4_init 67 = .ok (.iinc 1 1, 3) := by decide +kernel
theorem dX4_init_70 : decode cX4_init 70 = .ok (.goto (-56), 3) := by decide +kernel
theorem dX4_init_73 : decode cX4_init 73 = .ok (.return_, 1) := by decide +kernel
theorem dX4_leastMissing_0 : decode cX4_leastMissing 0 = .ok (.iconst 0, 1) := by decide +kernel
theorem dX4_leastMissing_1 : decode cX4_leastMissing 1 = .ok (.istore_n 1, 1) := by decide +kernel
theorem dX4_leastMissing_2 : decode cX4_leastMissing 2 = .ok (.iload_n 1, 1) := by decide +kernel
theorem dX4_leastMissing_3 : decode cX4_leastMissing 3 = .ok (.bipush 32, 2) := by decide +kernel
theorem dX4_leastMissing_5 : decode cX4_leastMissing 5 = .ok (.if_icmp .ge 18, 3) := by decide +kernel
theorem dX4_leastMissing_8 : decode cX4_leastMissing 8 = .ok (.iload_n 0, 1) := by decide +kernel
theorem dX4_leastMissing_9 : decode cX4_leastMissing 9 = .ok (.iload_n 1, 1) := by decide +kernel
theorem dX4_leastMissing_10 : decode cX4_leastMissing 10 = .ok (.ishr, 1) := by decide +kernel
theorem dX4_leastMissing_11 : decode cX4_leastMissing 11 = .ok (.iconst 1, 1) := by decide +kernel
theorem dX4_leastMissing_12 : decode cX4_leastMissing 12 = .ok (.iand, 1) := by decide +kernel
theorem dX4_leastMissing_13 : decode cX4_leastMissing 13 = .ok (.iconst 1, 1) := by decide +kernel
theorem dX4_leastMissing_14 : decode cX4_leastMissing 14 = .ok (.if_icmp .ne 9, 3) := by decide +kernel
theorem dX4_leastMissing_17 : decode cX4_leastMissing 17 = .ok (.iinc 1 1, 3) := by decide +kernel
theorem dX4_leastMissing_20 : decode cX4_leastMissing 20 = .ok (.goto (-18), 3) := by decide +kernel
theorem dX4_leastMissing_23 : decode cX4_leastMissing 23 = .ok (.iload_n 1, 1) := by decide +kernel
theorem dX4_leastMissing_24 : decode cX4_leastMissing 24 = .ok (.ireturn, 1) := by decide +kernel
theorem dX4_winningLess_0 : decode cX4_winningLess 0 = .ok (.iload_n 1, 1) := by decide +kernel
theorem dX4_winningLess_1 : decode cX4_winningLess 1 = .ok (.bipush 60, 2) := by decide +kernel
theorem dX4_winningLess_3 : decode cX4_winningLess 3 = .ok (.if_icmp .le 6, 3) := by decide +kernel
theorem dX4_winningLess_6 : decode cX4_winningLess 6 = .ok (.bipush (-6), 2) := by decide +kernel
theorem dX4_winningLess_8 : decode cX4_winningLess 8 = .ok (.ireturn, 1) := by decide +kernel
theorem dX4_winningLess_9 : decode cX4_winningLess 9 = .ok (.iconst 1, 1) := by decide +kernel
theorem dX4_winningLess_10 : decode cX4_winningLess 10 = .ok (.istore_n 2, 1) := by decide +kernel
theorem dX4_winningLess_11 : decode cX4_winningLess 11 = .ok (.iconst 2, 1) := by decide +kernel
theorem dX4_winningLess_12 : decode cX4_winningLess 12 = .ok (.iload_n 2, 1) := by decide +kernel
theorem dX4_winningLess_13 : decode cX4_winningLess 13 = .ok (.imul, 1) := by decide +kernel
theorem dX4_winningLess_14 : decode cX4_winningLess 14 = .ok (.iload_n 1, 1) := by decide +kernel
theorem dX4_winningLess_15 : decode cX4_winningLess 15 = .ok (.if_icmp .ge 28, 3) := by decide +kernel
theorem dX4_winningLess_18 : decode cX4_winningLess 18 = .ok (.aload_n 0, 1) := by decide +kernel
theorem dX4_winningLess_19 : decode cX4_winningLess 19 = .ok (.getfield 9, 3) := by decide +kernel
theorem dX4_winningLess_22 : decode cX4_winningLess 22 = .ok (.iload_n 2, 1) := by decide +kernel
theorem dX4_winningLess_23 : decode cX4_winningLess 23 = .ok (.iaload, 1) := by decide +kernel
theorem dX4_winningLess_24 : decode cX4_winningLess 24 = .ok (.aload_n 0, 1) := by decide +kernel
theorem dX4_winningLess_25 : decode cX4_winningLess 25 = .ok (.getfield 9, 3) := by decide +kernel
theorem dX4_winningLess_28 : decode cX4_winningLess 28 = .ok (.iload_n 1, 1) := by decide +kernel
theorem dX4_winningLess_29 : decode cX4_winningLess 29 = .ok (.iload_n 2, 1) := by decide +kernel
theorem dX4_winningLess_30 : decode cX4_winningLess 30 = .ok (.isub, 1) := by decide +kernel
theorem dX4_winningLess_31 : decode cX4_winningLess 31 = .ok (.iaload, 1) := by decide +kernel
theorem dX4_winningLess_32 : decode cX4_winningLess 32 = .ok (.if_icmp .ne 5, 3) := by decide +kernel
theorem dX4_winningLess_35 : decode cX4_winningLess 35 = .ok (.iload_n 2, 1) := by decide +kernel
theorem dX4_winningLess_36 : decode cX4_winningLess 36 = .ok (.ireturn, 1) := by decide +kernel
theorem dX4_winningLess_37 : decode cX4_winningLess 37 = .ok (.iinc 2 1, 3) := by decide +kernel
theorem dX4_winningLess_40 : decode cX4_winningLess 40 = .ok (.goto (-29), 3) := by decide +kernel
theorem dX4_winningLess_43 : decode cX4_winningLess 43 = .ok (.bipush (-6), 2) := by decide +kernel
theorem dX4_winningLess_45 : decode cX4_winningLess 45 = .ok (.ireturn, 1) := by decide +kernel
theorem dX5_init_0 : decode cX5_init 0 = .ok (.aload_n 0, 1) := by decide +kernel
theorem dX5_init_1 : decode cX5_init 1 = .ok (.invokespecial 3, 3) := by decide +kernel
theorem dX5_init_4 : decode cX5_init 4 = .ok (.aload_n 0, 1) := by decide +kernel
theorem dX5_init_5 : decode cX5_init 5 = .ok (.bipush 49, 2) := by decide +kernel
theorem dX5_init_7 : decode cX5_init 7 = .ok (.newarray .int, 2) := by decide +kernel
theorem dX5_init_9 : decode cX5_init 9 = .ok (.putfield 9, 3) := by decide +kernel
theorem dX5_init_12 : decode cX5_init 12 = .ok (.aload_n 0, 1) := by decide +kernel
theorem dX5_init_13 : decode cX5_init 13 = .ok (.sipush 896, 3) := by decide +kernel
theorem dX5_init_16 : decode cX5_init 16 = .ok (.newarray .int, 2) := by decide +kernel
theorem dX5_init_18 : decode cX5_init 18 = .ok (.putfield 15, 3) := by decide +kernel
theorem dX5_init_21 : decode cX5_init 21 = .ok (.return_, 1) := by decide +kernel
theorem dX5_measure_0 : decode cX5_measure 0 = .ok (.iconst 0, 1) := by decide +kernel
theorem dX5_measure_1 : decode cX5_measure 1 = .ok (.istore_n 2, 1) := by decide +kernel
theorem dX5_measure_2 : decode cX5_measure 2 = .ok (.iload_n 2, 1) := by decide +kernel
theorem dX5_measure_3 : decode cX5_measure 3 = .ok (.bipush 7, 2) := by decide +kernel
theorem dX5_measure_5 : decode cX5_measure 5 = .ok (.if_icmp .ge 67, 3) := by decide +kernel
theorem dX5_measure_8 : decode cX5_measure 8 = .ok (.iconst 0, 1) := by decide +kernel
theorem dX5_measure_9 : decode cX5_measure 9 = .ok (.istore_n 3, 1) := by decide +kernel
theorem dX5_measure_10 : decode cX5_measure 10 = .ok (.iload_n 3, 1) := by decide +kernel
theorem dX5_measure_11 : decode cX5_measure 11 = .ok (.bipush 7, 2) := by decide +kernel
theorem dX5_measure_13 : decode cX5_measure 13 = .ok (.if_icmp .ge 41, 3) := by decide +kernel
theorem dX5_measure_16 : decode cX5_measure 16 = .ok (.aload_n 1, 1) := by decide +kernel
theorem dX5_measure_17 : decode cX5_measure 17 = .ok (.iload_n 2, 1) := by decide +kernel
theorem dX5_measure_18 : decode cX5_measure 18 = .ok (.iload_n 3, 1) := by decide +kernel
theorem dX5_measure_19 : decode cX5_measure 19 = .ok (.invokevirtual 18, 3) := by decide +kernel
theorem dX5_measure_22 : decode cX5_measure 22 = .ok (.istore 4, 2) := by decide +kernel
theorem dX5_measure_24 : decode cX5_measure 24 = .ok (.aload_n 0, 1) := by decide +kernel
theorem dX5_measure_25 : decode cX5_measure 25 = .ok (.getfield 9, 3) := by decide +kernel
theorem dX5_measure_28 : decode cX5_measure 28 = .ok (.bipush 7, 2) := by decide +kernel
theorem dX5_measure_30 : decode cX5_measure 30 = .ok (.iload_n 2, 1) := by decide +kernel
theorem dX5_measure_31 : decode cX5_measure 31 = .ok (.imul, 1) := by decide +kernel
theorem dX5_measure_32 : decode cX5_measure 32 = .ok (.iload_n 3, 1) := by decide +kernel
theorem dX5_measure_33 : decode cX5_measure 33 = .ok (.iadd, 1) := by decide +kernel
theorem dX5_measure_34 : decode cX5_measure 34 = .ok (.iload 4, 2) := by decide +kernel
theorem dX5_measure_36 : decode cX5_measure 36 = .ok (.ifCond .le 8, 3) := by decide +kernel
theorem dX5_measure_39 : decode cX5_measure 39 = .ok (.iload 4, 2) := by decide +kernel
theorem dX5_measure_41 : decode cX5_measure 41 = .ok (.goto 6, 3) := by decide +kernel
theorem dX5_measure_44 : decode cX5_measure 44 = .ok (.sipush 1000, 3) := by decide +kernel
theorem dX5_measure_47 : decode cX5_measure 47 = .ok (.iastore, 1) := by decide +kernel
theorem dX5_measure_48 : decode cX5_measure 48 = .ok (.iinc 3 1, 3) := by decide +kernel
theorem dX5_measure_51 : decode cX5_measure 51 = .ok (.goto (-41), 3) := by decide +kernel
theorem dX5_measure_54 : decode cX5_measure 54 = .ok (.aload_n 0, 1) := by decide +kernel
theorem dX5_measure_55 : decode cX5_measure 55 = .ok (.getfield 9, 3) := by decide +kernel
theorem dX5_measure_58 : decode cX5_measure 58 = .ok (.bipush 7, 2) := by decide +kernel
theorem dX5_measure_60 : decode cX5_measure 60 = .ok (.iload_n 2, 1) := by decide +kernel
theorem dX5_measure_61 : decode cX5_measure 61 = .ok (.imul, 1) := by decide +kernel
theorem dX5_measure_62 : decode cX5_measure 62 = .ok (.iload_n 2, 1) := by decide +kernel
theorem dX5_measure_63 : decode cX5_measure 63 = .ok (.iadd, 1) := by decide +kernel
theorem dX5_measure_64 : decode cX5_measure 64 = .ok (.iconst 0, 1) := by decide +kernel
theorem dX5_measure_65 : decode cX5_measure 65 = .ok (.iastore, 1) := by decide +kernel
theorem dX5_measure_66 : decode cX5_measure 66 = .ok (.iinc 2 1, 3) := by decide +kernel
theorem dX5_measure_69 : decode cX5_measure 69 = .ok (.goto (-67), 3) := by decide +kernel
theorem dX5_measure_72 : decode cX5_measure 72 = .ok (.iconst 0, 1) := by decide +kernel
theorem dX5_measure_73 : decode cX5_measure 73 = .ok (.istore_n 2, 1) := by decide +kernel
theorem dX5_measure_74 : decode cX5_measure 74 = .ok (.iload_n 2, 1) := by decide +kernel
theorem dX5_measure_75 : decode cX5_measure 75 = .ok (.bipush 7, 2) := by decide +kernel
theorem dX5_measure_77 : decode cX5_measure 77 = .ok (.if_icmp .ge 14, 3) := by decide +kernel
theorem dX5_measure_80 : decode cX5_measure 80 = .ok (.aload_n 0, 1) := by decide +kernel
theorem dX5_measure_81 : decode cX5_measure 81 = .ok (.iload_n 2, 1) := by decide +kernel
theorem dX5_measure_82 : decode cX5_measure 82 = .ok (.invokevirtual 24, 3) := by decide +kernel
theorem dX5_measure_85 : decode cX5_measure 85 = .ok (.iinc 2 1, 3) := by decide +kernel
theorem dX5_measure_88 : decode cX5_measure 88 = .ok (.goto (-14), 3) := by decide +kernel
theorem dX5_measure_91 : decode cX5_measure 91 = .ok (.return_, 1) := by decide +kernel
theorem dX5_shortenBy_0 : decode cX5_shortenBy 0 = .ok (.iconst 0, 1) := by decide +kernel
theorem dX5_shortenBy_1 : decode cX5_shortenBy 1 = .ok (.istore_n 2, 1) := by decide +kernel
theorem dX5_shortenBy_2 : decode cX5_shortenBy 2 = .ok (.iload_n 2, 1) := by decide +kernel
theorem dX5_shortenBy_3 : decode cX5_shortenBy 3 = .ok (.bipush 7, 2) := by decide +kernel
theorem dX5_shortenBy_5 : decode cX5_shortenBy 5 = .ok (.if_icmp .ge 77, 3) := by decide +kernel
theorem dX5_shortenBy_8 : decode cX5_shortenBy 8 = .ok (.iconst 0, 1) := by decide +kernel
theorem dX5_shortenBy_9 : decode cX5_shortenBy 9 = .ok (.istore_n 3, 1) := by decide +kernel
theorem dX5_shortenBy_10 : decode cX5_shortenBy 10 = .ok (.iload_n 3, 1) := by decide +kernel
theorem dX5_shortenBy_11 : decode cX5_shortenBy 11 = .ok (.bipush 7, 2) := by decide +kernel
theorem dX5_shortenBy_13 : decode cX5_shortenBy 13 = .ok (.if_icmp .ge 63, 3) := by decide +kernel
theorem dX5_shortenBy_16 : decode cX5_shortenBy 16 = .ok (.aload_n 0, 1) := by decide +kernel
theorem dX5_shortenBy_17 : decode cX5_shortenBy 17 = .ok (.getfield 9, 3) := by decide +kernel
theorem dX5_shortenBy_20 : decode cX5_shortenBy 20 = .ok (.bipush 7, 2) := by decide +kernel
theorem dX5_shortenBy_22 : decode cX5_shortenBy 22 = .ok (.iload_n 2, 1) := by decide +kernel
theorem dX5_shortenBy_23 : decode cX5_shortenBy 23 = .ok (.imul, 1) := by decide +kernel
theorem dX5_shortenBy_24 : decode cX5_shortenBy 24 = .ok (.iload_n 1, 1) := by decide +kernel
theorem dX5_shortenBy_25 : decode cX5_shortenBy 25 = .ok (.iadd, 1) := by decide +kernel
theorem dX5_shortenBy_26 : decode cX5_shortenBy 26 = .ok (.iaload, 1) := by decide +kernel
theorem dX5_shortenBy_27 : decode cX5_shortenBy 27 = .ok (.aload_n 0, 1) := by decide +kernel
theorem dX5_shortenBy_28 : decode cX5_shortenBy 28 = .ok (.getfield 9, 3) := by decide +kernel
theorem dX5_shortenBy_31 : decode cX5_shortenBy 31 = .ok (.bipush 7, 2) := by decide +kernel
theorem dX5_shortenBy_33 : decode cX5_shortenBy 33 = .ok (.iload_n 1, 1) := by decide +kernel
theorem dX5_shortenBy_34 : decode cX5_shortenBy 34 = .ok (.imul, 1) := by decide +kernel
theorem dX5_shortenBy_35 : decode cX5_shortenBy 35 = .ok (.iload_n 3, 1) := by decide +kernel
theorem dX5_shortenBy_36 : decode cX5_shortenBy 36 = .ok (.iadd, 1) := by decide +kernel
theorem dX5_shortenBy_37 : decode cX5_shortenBy 37 = .ok (.iaload, 1) := by decide +kernel
theorem dX5_shortenBy_38 : decode cX5_shortenBy 38 = .ok (.iadd, 1) := by decide +kernel
theorem dX5_shortenBy_39 : decode cX5_shortenBy 39 = .ok (.istore 4, 2) := by decide +kernel
theorem dX5_shortenBy_41 : decode cX5_shortenBy 41 = .ok (.iload 4, 2) := by decide +kernel
theorem dX5_shortenBy_43 : decode cX5_shortenBy 43 = .ok (.aload_n 0, 1) := by decide +kernel
theorem dX5_shortenBy_44 : decode cX5_shortenBy 44 = .ok (.getfield 9, 3) := by decide +kernel
theorem dX5_shortenBy_47 : decode cX5_shortenBy 47 = .ok (.bipush 7, 2) := by decide +kernel
theorem dX5_shortenBy_49 : decode cX5_shortenBy 49 = .ok (.iload_n 2, 1) := by decide +kernel
theorem dX5_shortenBy_50 : decode cX5_shortenBy 50 = .ok (.imul, 1) := by decide +kernel
theorem dX5_shortenBy_51 : decode cX5_shortenBy 51 = .ok (.iload_n 3, 1) := by decide +kernel
theorem dX5_shortenBy_52 : decode cX5_shortenBy 52 = .ok (.iadd, 1) := by decide +kernel
theorem dX5_shortenBy_53 : decode cX5_shortenBy 53 = .ok (.iaload, 1) := by decide +kernel
theorem dX5_shortenBy_54 : decode cX5_shortenBy 54 = .ok (.if_icmp .ge 16, 3) := by decide +kernel
theorem dX5_shortenBy_57 : decode cX5_shortenBy 57 = .ok (.aload_n 0, 1) := by decide +kernel
theorem dX5_shortenBy_58 : decode cX5_shortenBy 58 = .ok (.getfield 9, 3) := by decide +kernel
theorem dX5_shortenBy_61 : decode cX5_shortenBy 61 = .ok (.bipush 7, 2) := by decide +kernel
theorem dX5_shortenBy_63 : decode cX5_shortenBy 63 = .ok (.iload_n 2, 1) := by decide +kernel
theorem dX5_shortenBy_64 : decode cX5_shortenBy 64 = .ok (.imul, 1) := by decide +kernel
theorem dX5_shortenBy_65 : decode cX5_shortenBy 65 = .ok (.iload_n 3, 1) := by decide +kernel
theorem dX5_shortenBy_66 : decode cX5_shortenBy 66 = .ok (.iadd, 1) := by decide +kernel
theorem dX5_shortenBy_67 : decode cX5_shortenBy 67 = .ok (.iload 4, 2) := by decide +kernel
theorem dX5_shortenBy_69 : decode cX5_shortenBy 69 = .ok (.iastore, 1) := by decide +kernel
theorem dX5_shortenBy_70 : decode cX5_shortenBy 70 = .ok (.iinc 3 1, 3) := by decide +kernel
theorem dX5_shortenBy_73 : decode cX5_shortenBy 73 = .ok (.goto (-63), 3) := by decide +kernel
theorem dX5_shortenBy_76 : decode cX5_shortenBy 76 = .ok (.iinc 2 1, 3) := by decide +kernel
theorem dX5_shortenBy_79 : decode cX5_shortenBy 79 = .ok (.goto (-77), 3) := by decide +kernel
theorem dX5_shortenBy_82 : decode cX5_shortenBy 82 = .ok (.return_, 1) := by decide +kernel
theorem dX5_between_0 : decode cX5_between 0 = .ok (.iload_n 1, 1) := by decide +kernel
theorem dX5_between_1 : decode cX5_between 1 = .ok (.invokestatic 28, 3) := by decide +kernel
theorem dX5_between_4 : decode cX5_between 4 = .ok (.ifCond .eq 27, 3) := by decide +kernel
theorem dX5_between_7 : decode cX5_between 7 = .ok (.iload_n 2, 1) := by decide +kernel
theorem dX5_between_8 : decode cX5_between 8 = .ok (.invokestatic 28, 3) := by decide +kernel
theorem dX5_between_11 : decode cX5_between 11 = .ok (.ifCond .eq 20, 3) := by decide +kernel
theorem dX5_between_14 : decode cX5_between 14 = .ok (.aload_n 0, 1) := by decide +kernel
theorem dX5_between_15 : decode cX5_between 15 = .ok (.getfield 9, 3) := by decide +kernel
theorem dX5_between_18 : decode cX5_between 18 = .ok (.bipush 7, 2) := by decide +kernel
theorem dX5_between_20 : decode cX5_between 20 = .ok (.iload_n 1, 1) := by decide +kernel
theorem dX5_between_21 : decode cX5_between 21 = .ok (.imul, 1) := by decide +kernel
theorem dX5_between_22 : decode cX5_between 22 = .ok (.iload_n 2, 1) := by decide +kernel
theorem dX5_between_23 : decode cX5_between 23 = .ok (.iadd, 1) := by decide +kernel
theorem dX5_between_24 : decode cX5_between 24 = .ok (.iaload, 1) := by decide +kernel
theorem dX5_between_25 : decode cX5_between 25 = .ok (.invokestatic 32, 3) := by decide +kernel
theorem dX5_between_28 : decode cX5_between 28 = .ok (.goto 5, 3) := by decide +kernel
theorem dX5_between_31 : decode cX5_between 31 = .ok (.bipush (-6), 2) := by decide +kernel
theorem dX5_between_33 : decode cX5_between 33 = .ok (.ireturn, 1) := by decide +kernel
theorem dX5_milesOrNone_0 : decode cX5_milesOrNone 0 = .ok (.iload_n 0, 1) := by decide +kernel
theorem dX5_milesOrNone_1 : decode cX5_milesOrNone 1 = .ok (.sipush 1000, 3) := by decide +kernel
theorem dX5_milesOrNone_4 : decode cX5_milesOrNone 4 = .ok (.if_icmp .ge 7, 3) := by decide +kernel
theorem dX5_milesOrNone_7 : decode cX5_milesOrNone 7 = .ok (.iload_n 0, 1) := by decide +kernel
theorem dX5_milesOrNone_8 : decode cX5_milesOrNone 8 = .ok (.goto 5, 3) := by decide +kernel
theorem dX5_milesOrNone_11 : decode cX5_milesOrNone 11 = .ok (.bipush (-6), 2) := by decide +kernel
theorem dX5_milesOrNone_13 : decode cX5_milesOrNone 13 = .ok (.ireturn, 1) := by decide +kernel
theorem dX5_tour_0 : decode cX5_tour 0 = .ok (.iload_n 1, 1) := by decide +kernel
theorem dX5_tour_1 : decode cX5_tour 1 = .ok (.invokestatic 28, 3) := by decide +kernel
theorem dX5_tour_4 : decode cX5_tour 4 = .ok (.ifCond .ne 6, 3) := by decide +kernel
theorem dX5_tour_7 : decode cX5_tour 7 = .ok (.bipush (-6), 2) := by decide +kernel
theorem dX5_tour_9 : decode cX5_tour 9 = .ok (.ireturn, 1) := by decide +kernel
theorem dX5_tour_10 : decode cX5_tour 10 = .ok (.aload_n 0, 1) := by decide +kernel
theorem dX5_tour_11 : decode cX5_tour 11 = .ok (.getfield 15, 3) := by decide +kernel
theorem dX5_tour_14 : decode cX5_tour 14 = .ok (.sipush 1000, 3) := by decide +kernel
theorem dX5_tour_17 : decode cX5_tour 17 = .ok (.invokestatic 36, 3) := by decide +kernel
theorem dX5_tour_20 : decode cX5_tour 20 = .ok (.aload_n 0, 1) := by decide +kernel
theorem dX5_tour_21 : decode cX5_tour 21 = .ok (.getfield 15, 3) := by decide +kernel
theorem dX5_tour_24 : decode cX5_tour 24 = .ok (.bipush 7, 2) := by decide +kernel
theorem dX5_tour_26 : decode cX5_tour 26 = .ok (.iconst 1, 1) := by decide +kernel
theorem dX5_tour_27 : decode cX5_tour 27 = .ok (.iload_n 1, 1) := by decide +kernel
theorem dX5_tour_28 : decode cX5_tour 28 = .ok (.ishl, 1) := by decide +kernel
theorem dX5_tour_29 : decode cX5_tour 29 = .ok (.imul, 1) := by decide +kernel
theorem dX5_tour_30 : decode cX5_tour 30 = .ok (.iload_n 1, 1) := by decide +kernel
theorem dX5_tour_31 : decode cX5_tour 31 = .ok (.iadd, 1) := by decide +kernel
theorem dX5_tour_32 : decode cX5_tour 32 = .ok (.iconst 0, 1) := by decide +kernel
theorem dX5_tour_33 : decode cX5_tour 33 = .ok (.iastore, 1) := by decide +kernel
theorem dX5_tour_34 : decode cX5_tour 34 = .ok (.iconst 0, 1) := by decide +kernel
theorem dX5_tour_35 : decode cX5_tour 35 = .ok (.istore_n 3, 1) := by decide +kernel
theorem dX5_tour_36 : decode cX5_tour 36 = .ok (.iload_n 3, 1) := by decide +kernel
theorem dX5_tour_37 : decode cX5_tour 37 = .ok (.sipush 128, 3) := by decide +kernel
theorem dX5_tour_40 : decode cX5_tour 40 = .ok (.if_icmp .ge 55, 3) := by decide +kernel
theorem dX5_tour_43 : decode cX5_tour 43 = .ok (.iconst 0, 1) := by decide +kernel
theorem dX5_tour_44 : decode cX5_tour 44 = .ok (.istore 4, 2) := by decide +kernel
theorem dX5_tour_46 : decode cX5_tour 46 = .ok (.iload 4, 2) := by decide +kernel
theorem dX5_tour_48 : decode cX5_tour 48 = .ok (.bipush 7, 2) := by decide +kernel
theorem dX5_tour_50 : decode cX5_tour 50 = .ok (.if_icmp .ge 39, 3) := by decide +kernel
theorem dX5_tour_53 : decode cX5_tour 53 = .ok (.aload_n 0, 1) := by decide +kernel
theorem dX5_tour_54 : decode cX5_tour 54 = .ok (.getfield 15, 3) := by decide +kernel
theorem dX5_tour_57 : decode cX5_tour 57 = .ok (.bipush 7, 2) := by decide +kernel
theorem dX5_tour_59 : decode cX5_tour 59 = .ok (.iload_n 3, 1) := by decide +kernel
theorem dX5_tour_60 : decode cX5_tour 60 = .ok (.imul, 1) := by decide +kernel
theorem dX5_tour_61 : decode cX5_tour 61 = .ok (.iload 4, 2) := by decide +kernel
theorem dX5_tour_63 : decode cX5_tour 63 = .ok (.iadd, 1) := by decide +kernel
theorem dX5_tour_64 : decode cX5_tour 64 = .ok (.iaload, 1) := by decide +kernel
theorem dX5_tour_65 : decode cX5_tour 65 = .ok (.sipush 1000, 3) := by decide +kernel
theorem dX5_tour_68 : decode cX5_tour 68 = .ok (.if_icmp .ge 15, 3) := by decide +kernel
theorem dX5_tour_71 : decode cX5_tour 71 = .ok (.aload_n 0, 1) := by decide +kernel
theorem dX5_tour_72 : decode cX5_tour 72 = .ok (.iload_n 3, 1) := by decide +kernel
theorem dX5_tour_73 : decode cX5_tour 73 = .ok (.iload 4, 2) := by decide +kernel
theorem dX5_tour_75 : decode cX5_tour 75 = .ok (.iload_n 2, 1) := by decide +kernel
theorem dX5_tour_76 : decode cX5_tour 76 = .ok (.iload_n 3, 1) := by decide +kernel
theorem dX5_tour_77 : decode cX5_tour 77 = .ok (.iconst (-1), 1) := by decide +kernel
theorem dX5_tour_78 : decode cX5_tour 78 = .ok (.ixor, 1) := by decide +kernel
theorem dX5_tour_79 : decode cX5_tour 79 = .ok (.iand, 1) := by decide +kernel
theorem dX5_tour_80 : decode cX5_tour 80 = .ok (.invokevirtual 42, 3) := by decide +kernel
theorem dX5_tour_83 : decode cX5_tour 83 = .ok (.iinc 4 1, 3) := by decide +kernel
theorem dX5_tour_86 : decode cX5_tour 86 = .ok (.goto (-40), 3) := by decide +kernel
theorem dX5_tour_89 : decode cX5_tour 89 = .ok (.iinc 3 1, 3) := by decide +kernel
theorem dX5_tour_92 : decode cX5_tour 92 = .ok (.goto (-56), 3) := by decide +kernel
theorem dX5_tour_95 : decode cX5_tour 95 = .ok (.aload_n 0, 1) := by decide +kernel
theorem dX5_tour_96 : decode cX5_tour 96 = .ok (.iload_n 1, 1) := by decide +kernel
theorem dX5_tour_97 : decode cX5_tour 97 = .ok (.iload_n 2, 1) := by decide +kernel
theorem dX5_tour_98 : decode cX5_tour 98 = .ok (.iconst 1, 1) := by decide +kernel
theorem dX5_tour_99 : decode cX5_tour 99 = .ok (.iload_n 1, 1) := by decide +kernel
theorem dX5_tour_100 : decode cX5_tour 100 = .ok (.ishl, 1) := by decide +kernel
theorem dX5_tour_101 : decode cX5_tour 101 = .ok (.ior, 1) := by decide +kernel
theorem dX5_tour_102 : decode cX5_tour 102 = .ok (.bipush 127, 2) := by decide +kernel
theorem dX5_tour_104 : decode cX5_tour 104 = .ok (.iand, 1) := by decide +kernel
theorem dX5_tour_105 : decode cX5_tour 105 = .ok (.invokevirtual 46, 3) := by decide +kernel
theorem dX5_tour_108 : decode cX5_tour 108 = .ok (.invokestatic 32, 3) := by decide +kernel
theorem dX5_tour_111 : decode cX5_tour 111 = .ok (.ireturn, 1) := by decide +kernel
theorem dX5_lengthen_0 : decode cX5_lengthen 0 = .ok (.iconst 0, 1) := by decide +kernel
theorem dX5_lengthen_1 : decode cX5_lengthen 1 = .ok (.istore 4, 2) := by decide +kernel
theorem dX5_lengthen_3 : decode cX5_lengthen 3 = .ok (.iload 4, 2) := by decide +kernel
theorem dX5_lengthen_5 : decode cX5_lengthen 5 = .ok (.bipush 7, 2) := by decide +kernel
theorem dX5_lengthen_7 : decode cX5_lengthen 7 = .ok (.if_icmp .ge 80, 3) := by decide +kernel
theorem dX5_lengthen_10 : decode cX5_lengthen 10 = .ok (.iload_n 3, 1) := by decide +kernel
theorem dX5_lengthen_11 : decode cX5_lengthen 11 = .ok (.iload 4, 2) := by decide +kernel
theorem dX5_lengthen_13 : decode cX5_lengthen 13 = .ok (.ishr, 1) := by decide +kernel
theorem dX5_lengthen_14 : decode cX5_lengthen 14 = .ok (.iconst 1, 1) := by decide +kernel
theorem dX5_lengthen_15 : decode cX5_lengthen 15 = .ok (.iand, 1) := by decide +kernel
theorem dX5_lengthen_16 : decode cX5_lengthen 16 = .ok (.iconst 1, 1) := by decide +kernel
theorem dX5_lengthen_17 : decode cX5_lengthen 17 = .ok (.if_icmp .ne 64, 3) := by decide +kernel
theorem dX5_lengthen_20 : decode cX5_lengthen 20 = .ok (.aload_n 0, 1) := by decide +kernel
theorem dX5_lengthen_21 : decode cX5_lengthen 21 = .ok (.getfield 15, 3) := by decide +kernel
theorem dX5_lengthen_24 : decode cX5_lengthen 24 = .ok (.bipush 7, 2) := by decide +kernel
theorem dX5_lengthen_26 : decode cX5_lengthen 26 = .ok (.iload_n 1, 1) := by decide +kernel
theorem dX5_lengthen_27 : decode cX5_lengthen 27 = .ok (.imul, 1) := by decide +kernel
theorem dX5_lengthen_28 : decode cX5_lengthen 28 = .ok (.iload_n 2, 1) := by decide +kernel
theorem dX5_lengthen_29 : decode cX5_lengthen 29 = .ok (.iadd, 1) := by decide +kernel
theorem dX5_lengthen_30 : decode cX5_lengthen 30 = .ok (.iaload, 1) := by decide +kernel
theorem dX5_lengthen_31 : decode cX5_lengthen 31 = .ok (.aload_n 0, 1) := by decide +kernel
theorem dX5_lengthen_32 : decode cX5_lengthen 32 = .ok (.getfield 9, 3) := by decide +kernel
theorem dX5_lengthen_35 : decode cX5_lengthen 35 = .ok (.bipush 7, 2) := by decide +kernel
theorem dX5_lengthen_37 : decode cX5_lengthen 37 = .ok (.iload_n 2, 1) := by decide +kernel
theorem dX5_lengthen_38 : decode cX5_lengthen 38 = .ok (.imul, 1) := by decide +kernel
theorem dX5_lengthen_39 : decode cX5_lengthen 39 = .ok (.iload 4, 2) := by decide +kernel
theorem dX5_lengthen_41 : decode cX5_lengthen 41 = .ok (.iadd, 1) := by decide +kernel
theorem dX5_lengthen_42 : decode cX5_lengthen 42 = .ok (.iaload, 1) := by decide +kernel
theorem dX5_lengthen_43 : decode cX5_lengthen 43 = .ok (.iadd, 1) := by decide +kernel
theorem dX5_lengthen_44 : decode cX5_lengthen 44 = .ok (.istore 5, 2) := by decide +kernel
theorem dX5_lengthen_46 : decode cX5_lengthen 46 = .ok (.bipush 7, 2) := by decide +kernel
theorem dX5_lengthen_48 : decode cX5_lengthen 48 = .ok (.iload_n 1, 1) := by decide +kernel
theorem dX5_lengthen_49 : decode cX5_lengthen 49 = .ok (.iconst 1, 1) := by decide +kernel
theorem dX5_lengthen_50 : decode cX5_lengthen 50 = .ok (.iload 4, 2) := by decide +kernel
theorem dX5_lengthen_52 : decode cX5_lengthen 52 = .ok (.ishl, 1) := by decide +kernel
theorem dX5_lengthen_53 : decode cX5_lengthen 53 = .ok (.ior, 1) := by decide +kernel
theorem dX5_lengthen_54 : decode cX5_lengthen 54 = .ok (.imul, 1) := by decide +kernel
theorem dX5_lengthen_55 : decode cX5_lengthen 55 = .ok (.iload 4, 2) := by decide +kernel
theorem dX5_lengthen_57 : decode cX5_lengthen 57 = .ok (.iadd, 1) := by decide +kernel
theorem dX5_lengthen_58 : decode cX5_lengthen 58 = .ok (.istore 6, 2) := by decide +kernel
theorem dX5_lengthen_60 : decode cX5_lengthen 60 = .ok (.iload 5, 2) := by decide +kernel
theorem dX5_lengthen_62 : decode cX5_lengthen 62 = .ok (.aload_n 0, 1) := by decide +kernel
theorem dX5_lengthen_63 : decode cX5_lengthen 63 = .ok (.getfield 15, 3) := by decide +kernel
theorem dX5_lengthen_66 : decode cX5_lengthen 66 = .ok (.iload 6, 2) := by decide +kernel
theorem dX5_lengthen_68 : decode cX5_lengthen 68 = .ok (.iaload, 1) := by decide +kernel
theorem dX5_lengthen_69 : decode cX5_lengthen 69 = .ok (.if_icmp .ge 12, 3) := by decide +kernel
theorem dX5_lengthen_72 : decode cX5_lengthen 72 = .ok (.aload_n 0, 1) := by decide +kernel
theorem dX5_lengthen_73 : decode cX5_lengthen 73 = .ok (.getfield 15, 3) := by decide +kernel
theorem dX5_lengthen_76 : decode cX5_lengthen 76 = .ok (.iload 6, 2) := by decide +kernel
theorem dX5_lengthen_78 : decode cX5_lengthen 78 = .ok (.iload 5, 2) := by decide +kernel
theorem dX5_lengthen_80 : decode cX5_lengthen 80 = .ok (.iastore, 1) := by decide +kernel
theorem dX5_lengthen_81 : decode cX5_lengthen 81 = .ok (.iinc 4 1, 3) := by decide +kernel
theorem dX5_lengthen_84 : decode cX5_lengthen 84 = .ok (.goto (-81), 3) := by decide +kernel
theorem dX5_lengthen_87 : decode cX5_lengthen 87 = .ok (.return_, 1) := by decide +kernel
theorem dX5_leastHome_0 : decode cX5_leastHome 0 = .ok (.sipush 1000, 3) := by decide +kernel
theorem dX5_leastHome_3 : decode cX5_leastHome 3 = .ok (.istore_n 3, 1) := by decide +kernel
theorem dX5_leastHome_4 : decode cX5_leastHome 4 = .ok (.iconst 0, 1) := by decide +kernel
theorem dX5_leastHome_5 : decode cX5_leastHome 5 = .ok (.istore 4, 2) := by decide +kernel
theorem dX5_leastHome_7 : decode cX5_leastHome 7 = .ok (.iload 4, 2) := by decide +kernel
theorem dX5_leastHome_9 : decode cX5_leastHome 9 = .ok (.bipush 7, 2) := by decide +kernel
theorem dX5_leastHome_11 : decode cX5_leastHome 11 = .ok (.if_icmp .ge 39, 3) := by decide +kernel
theorem dX5_leastHome_14 : decode cX5_leastHome 14 = .ok (.iload_n 3, 1) := by decide +kernel
theorem dX5_leastHome_15 : decode cX5_leastHome 15 = .ok (.aload_n 0, 1) := by decide +kernel
theorem dX5_leastHome_16 : decode cX5_leastHome 16 = .ok (.getfield 15, 3) := by decide +kernel
theorem dX5_leastHome_19 : decode cX5_leastHome 19 = .ok (.bipush 7, 2) := by decide +kernel
theorem dX5_leastHome_21 : decode cX5_leastHome 21 = .ok (.iload_n 2, 1) := by decide +kernel
theorem dX5_leastHome_22 : decode cX5_leastHome 22 = .ok (.imul, 1) := by decide +kernel
theorem dX5_leastHome_23 : decode cX5_leastHome 23 = .ok (.iload 4, 2) := by decide +kernel
theorem dX5_leastHome_25 : decode cX5_leastHome 25 = .ok (.iadd, 1) := by decide +kernel
theorem dX5_leastHome_26 : decode cX5_leastHome 26 = .ok (.iaload, 1) := by decide +kernel
theorem dX5_leastHome_27 : decode cX5_leastHome 27 = .ok (.aload_n 0, 1) := by decide +kernel
theorem dX5_leastHome_28 : decode cX5_leastHome 28 = .ok (.getfield 9, 3) := by decide +kernel
theorem dX5_leastHome_31 : decode cX5_leastHome 31 = .ok (.bipush 7, 2) := by decide +kernel
theorem dX5_leastHome_33 : decode cX5_leastHome 33 = .ok (.iload 4, 2) := by decide +kernel
theorem dX5_leastHome_35 : decode cX5_leastHome 35 = .ok (.imul, 1) := by decide +kernel
theorem dX5_leastHome_36 : decode cX5_leastHome 36 = .ok (.iload_n 1, 1) := by decide +kernel
theorem dX5_leastHome_37 : decode cX5_leastHome 37 = .ok (.iadd, 1) := by decide +kernel
theorem dX5_leastHome_38 : decode cX5_leastHome 38 = .ok (.iaload, 1) := by decide +kernel
theorem dX5_leastHome_39 : decode cX5_leastHome 39 = .ok (.iadd, 1) := by decide +kernel
theorem dX5_leastHome_40 : decode cX5_leastHome 40 = .ok (.invokestatic 49, 3) := by decide +kernel
theorem dX5_leastHome_43 : decode cX5_leastHome 43 = .ok (.istore_n 3, 1) := by decide +kernel
theorem dX5_leastHome_44 : decode cX5_leastHome 44 = .ok (.iinc 4 1, 3) := by decide +kernel
theorem dX5_leastHome_47 : decode cX5_leastHome 47 = .ok (.goto (-40), 3) := by decide +kernel
theorem dX5_leastHome_50 : decode cX5_leastHome 50 = .ok (.iload_n 3, 1) := by decide +kernel
theorem dX5_leastHome_51 : decode cX5_leastHome 51 = .ok (.ireturn, 1) := by decide +kernel
theorem dX6_init_0 : decode cX6_init 0 = .ok (.aload_n 0, 1) := by decide +kernel
theorem dX6_init_1 : decode cX6_init 1 = .ok (.invokespecial 3, 3) := by decide +kernel
theorem dX6_init_4 : decode cX6_init 4 = .ok (.aload_n 0, 1) := by decide +kernel
theorem dX6_init_5 : decode cX6_init 5 = .ok (.sipush 410, 3) := by decide +kernel
theorem dX6_init_8 : decode cX6_init 8 = .ok (.newarray .int, 2) := by decide +kernel
end
section
theorem dX6_init_10 : decode cX6_init 10 = .ok (.putfield 9, 3) := by decide +kernel
theorem dX6_init_13 : decode cX6_init 13 = .ok (.aload_n 0, 1) := by decide +kernel
theorem dX6_init_14 : decode cX6_init 14 = .ok (.bipush 101, 2) := by decide +kernel
theorem dX6_init_16 : decode cX6_init 16 = .ok (.newarray .int, 2) := by decide +kernel
theorem dX6_init_18 : decode cX6_init 18 = .ok (.putfield 15, 3) := by decide +kernel
theorem dX6_init_21 : decode cX6_init 21 = .ok (.aload_n 0, 1) := by decide +kernel
theorem dX6_init_22 : decode cX6_init 22 = .ok (.iconst 0, 1) := by decide +kernel
theorem dX6_init_23 : decode cX6_init 23 = .ok (.putfield 18, 3) := by decide +kernel
theorem dX6_init_26 : decode cX6_init 26 = .ok (.aload_n 0, 1) := by decide +kernel
theorem dX6_init_27 : decode cX6_init 27 = .ok (.iconst 0, 1) := by decide +kernel
theorem dX6_init_28 : decode cX6_init 28 = .ok (.putfield 22, 3) := by decide +kernel
theorem dX6_init_31 : decode cX6_init 31 = .ok (.aload_n 0, 1) := by decide +kernel
theorem dX6_init_32 : decode cX6_init 32 = .ok (.invokevirtual 25, 3) := by decide +kernel
theorem dX6_init_35 : decode cX6_init 35 = .ok (.return_, 1) := by decide +kernel
theorem dX6_copyFrom_0 : decode cX6_copyFrom 0 = .ok (.aload_n 1, 1) := by decide +kernel
theorem dX6_copyFrom_1 : decode cX6_copyFrom 1 = .ok (.getfield 9, 3) := by decide +kernel
theorem dX6_copyFrom_4 : decode cX6_copyFrom 4 = .ok (.iconst 0, 1) := by decide +kernel
theorem dX6_copyFrom_5 : decode cX6_copyFrom 5 = .ok (.aload_n 0, 1) := by decide +kernel
theorem dX6_copyFrom_6 : decode cX6_copyFrom 6 = .ok (.getfield 9, 3) := by decide +kernel
theorem dX6_copyFrom_9 : decode cX6_copyFrom 9 = .ok (.iconst 0, 1) := by decide +kernel
theorem dX6_copyFrom_10 : decode cX6_copyFrom 10 = .ok (.sipush 410, 3) := by decide +kernel
theorem dX6_copyFrom_13 : decode cX6_copyFrom 13 = .ok (.invokestatic 28, 3) := by decide +kernel
theorem dX6_copyFrom_16 : decode cX6_copyFrom 16 = .ok (.aload_n 0, 1) := by decide +kernel
theorem dX6_copyFrom_17 : decode cX6_copyFrom 17 = .ok (.aload_n 1, 1) := by decide +kernel
theorem dX6_copyFrom_18 : decode cX6_copyFrom 18 = .ok (.getfield 18, 3) := by decide +kernel
theorem dX6_copyFrom_21 : decode cX6_copyFrom 21 = .ok (.putfield 18, 3) := by decide +kernel
theorem dX6_copyFrom_24 : decode cX6_copyFrom 24 = .ok (.aload_n 0, 1) := by decide +kernel
theorem dX6_copyFrom_25 : decode cX6_copyFrom 25 = .ok (.aload_n 1, 1) := by decide +kernel
theorem dX6_copyFrom_26 : decode cX6_copyFrom 26 = .ok (.getfield 22, 3) := by decide +kernel
theorem dX6_copyFrom_29 : decode cX6_copyFrom 29 = .ok (.putfield 22, 3) := by decide +kernel
theorem dX6_copyFrom_32 : decode cX6_copyFrom 32 = .ok (.return_, 1) := by decide +kernel
theorem dX6_clear_0 : decode cX6_clear 0 = .ok (.iconst 0, 1) := by decide +kernel
theorem dX6_clear_1 : decode cX6_clear 1 = .ok (.istore_n 1, 1) := by decide +kernel
theorem dX6_clear_2 : decode cX6_clear 2 = .ok (.iload_n 1, 1) := by decide +kernel
theorem dX6_clear_3 : decode cX6_clear 3 = .ok (.sipush 410, 3) := by decide +kernel
theorem dX6_clear_6 : decode cX6_clear 6 = .ok (.if_icmp .ge 16, 3) := by decide +kernel
theorem dX6_clear_9 : decode cX6_clear 9 = .ok (.aload_n 0, 1) := by decide +kernel
theorem dX6_clear_10 : decode cX6_clear 10 = .ok (.getfield 9, 3) := by decide +kernel
theorem dX6_clear_13 : decode cX6_clear 13 = .ok (.iload_n 1, 1) := by decide +kernel
theorem dX6_clear_14 : decode cX6_clear 14 = .ok (.iload_n 1, 1) := by decide +kernel
theorem dX6_clear_15 : decode cX6_clear 15 = .ok (.iastore, 1) := by decide +kernel
theorem dX6_clear_16 : decode cX6_clear 16 = .ok (.iinc 1 1, 3) := by decide +kernel
theorem dX6_clear_19 : decode cX6_clear 19 = .ok (.goto (-17), 3) := by decide +kernel
theorem dX6_clear_22 : decode cX6_clear 22 = .ok (.aload_n 0, 1) := by decide +kernel
theorem dX6_clear_23 : decode cX6_clear 23 = .ok (.sipush 410, 3) := by decide +kernel
theorem dX6_clear_26 : decode cX6_clear 26 = .ok (.putfield 18, 3) := by decide +kernel
theorem dX6_clear_29 : decode cX6_clear 29 = .ok (.aload_n 0, 1) := by decide +kernel
theorem dX6_clear_30 : decode cX6_clear 30 = .ok (.iconst 0, 1) := by decide +kernel
theorem dX6_clear_31 : decode cX6_clear 31 = .ok (.putfield 22, 3) := by decide +kernel
theorem dX6_clear_34 : decode cX6_clear 34 = .ok (.return_, 1) := by decide +kernel
theorem dX6_add_0 : decode cX6_add 0 = .ok (.aload_n 0, 1) := by decide +kernel
theorem dX6_add_1 : decode cX6_add 1 = .ok (.getfield 22, 3) := by decide +kernel
theorem dX6_add_4 : decode cX6_add 4 = .ok (.bipush 8, 2) := by decide +kernel
theorem dX6_add_6 : decode cX6_add 6 = .ok (.if_icmp .lt 5, 3) := by decide +kernel
theorem dX6_add_9 : decode cX6_add 9 = .ok (.iconst 0, 1) := by decide +kernel
theorem dX6_add_10 : decode cX6_add 10 = .ok (.ireturn, 1) := by decide +kernel
theorem dX6_add_11 : decode cX6_add 11 = .ok (.aload_n 0, 1) := by decide +kernel
theorem dX6_add_12 : decode cX6_add 12 = .ok (.dup, 1) := by decide +kernel
theorem dX6_add_13 : decode cX6_add 13 = .ok (.getfield 22, 3) := by decide +kernel
theorem dX6_add_16 : decode cX6_add 16 = .ok (.iconst 1, 1) := by decide +kernel
theorem dX6_add_17 : decode cX6_add 17 = .ok (.iadd, 1) := by decide +kernel
theorem dX6_add_18 : decode cX6_add 18 = .ok (.putfield 22, 3) := by decide +kernel
theorem dX6_add_21 : decode cX6_add 21 = .ok (.iconst 0, 1) := by decide +kernel
theorem dX6_add_22 : decode cX6_add 22 = .ok (.istore 4, 2) := by decide +kernel
theorem dX6_add_24 : decode cX6_add 24 = .ok (.iconst 0, 1) := by decide +kernel
theorem dX6_add_25 : decode cX6_add 25 = .ok (.istore 5, 2) := by decide +kernel
theorem dX6_add_27 : decode cX6_add 27 = .ok (.iload 5, 2) := by decide +kernel
theorem dX6_add_29 : decode cX6_add 29 = .ok (.aload_n 0, 1) := by decide +kernel
theorem dX6_add_30 : decode cX6_add 30 = .ok (.getfield 18, 3) := by decide +kernel
theorem dX6_add_33 : decode cX6_add 33 = .ok (.if_icmp .ge 42, 3) := by decide +kernel
theorem dX6_add_36 : decode cX6_add 36 = .ok (.aload_n 0, 1) := by decide +kernel
theorem dX6_add_37 : decode cX6_add 37 = .ok (.getfield 9, 3) := by decide +kernel
theorem dX6_add_40 : decode cX6_add 40 = .ok (.iload 5, 2) := by decide +kernel
theorem dX6_add_42 : decode cX6_add 42 = .ok (.iaload, 1) := by decide +kernel
theorem dX6_add_43 : decode cX6_add 43 = .ok (.iload_n 1, 1) := by decide +kernel
theorem dX6_add_44 : decode cX6_add 44 = .ok (.iload_n 2, 1) := by decide +kernel
theorem dX6_add_45 : decode cX6_add 45 = .ok (.invokestatic 34, 3) := by decide +kernel
theorem dX6_add_48 : decode cX6_add 48 = .ok (.iload_n 3, 1) := by decide +kernel
theorem dX6_add_49 : decode cX6_add 49 = .ok (.if_icmp .ne 20, 3) := by decide +kernel
theorem dX6_add_52 : decode cX6_add 52 = .ok (.aload_n 0, 1) := by decide +kernel
theorem dX6_add_53 : decode cX6_add 53 = .ok (.getfield 9, 3) := by decide +kernel
theorem dX6_add_56 : decode cX6_add 56 = .ok (.iload 4, 2) := by decide +kernel
theorem dX6_add_58 : decode cX6_add 58 = .ok (.aload_n 0, 1) := by decide +kernel
theorem dX6_add_59 : decode cX6_add 59 = .ok (.getfield 9, 3) := by decide +kernel
theorem dX6_add_62 : decode cX6_add 62 = .ok (.iload 5, 2) := by decide +kernel
theorem dX6_add_64 : decode cX6_add 64 = .ok (.iaload, 1) := by decide +kernel
theorem dX6_add_65 : decode cX6_add 65 = .ok (.iastore, 1) := by decide +kernel
theorem dX6_add_66 : decode cX6_add 66 = .ok (.iinc 4 1, 3) := by decide +kernel
theorem dX6_add_69 : decode cX6_add 69 = .ok (.iinc 5 1, 3) := by decide +kernel
theorem dX6_add_72 : decode cX6_add 72 = .ok (.goto (-45), 3) := by decide +kernel
theorem dX6_add_75 : decode cX6_add 75 = .ok (.aload_n 0, 1) := by decide +kernel
theorem dX6_add_76 : decode cX6_add 76 = .ok (.iload 4, 2) := by decide +kernel
theorem dX6_add_78 : decode cX6_add 78 = .ok (.putfield 18, 3) := by decide +kernel
theorem dX6_add_81 : decode cX6_add 81 = .ok (.iconst 1, 1) := by decide +kernel
theorem dX6_add_82 : decode cX6_add 82 = .ok (.ireturn, 1) := by decide +kernel
theorem dX6_isDown_0 : decode cX6_isDown 0 = .ok (.iload_n 2, 1) := by decide +kernel
theorem dX6_isDown_1 : decode cX6_isDown 1 = .ok (.iload_n 0, 1) := by decide +kernel
theorem dX6_isDown_2 : decode cX6_isDown 2 = .ok (.bipush 10, 2) := by decide +kernel
theorem dX6_isDown_4 : decode cX6_isDown 4 = .ok (.idiv, 1) := by decide +kernel
theorem dX6_isDown_5 : decode cX6_isDown 5 = .ok (.if_icmp .lt 16, 3) := by decide +kernel
theorem dX6_isDown_8 : decode cX6_isDown 8 = .ok (.iload_n 2, 1) := by decide +kernel
theorem dX6_isDown_9 : decode cX6_isDown 9 = .ok (.iload_n 0, 1) := by decide +kernel
theorem dX6_isDown_10 : decode cX6_isDown 10 = .ok (.iload_n 1, 1) := by decide +kernel
theorem dX6_isDown_11 : decode cX6_isDown 11 = .ok (.invokestatic 38, 3) := by decide +kernel
theorem dX6_isDown_14 : decode cX6_isDown 14 = .ok (.if_icmp .gt 7, 3) := by decide +kernel
theorem dX6_isDown_17 : decode cX6_isDown 17 = .ok (.iconst 1, 1) := by decide +kernel
theorem dX6_isDown_18 : decode cX6_isDown 18 = .ok (.goto 4, 3) := by decide +kernel
theorem dX6_isDown_21 : decode cX6_isDown 21 = .ok (.iconst 0, 1) := by decide +kernel
theorem dX6_isDown_22 : decode cX6_isDown 22 = .ok (.ireturn, 1) := by decide +kernel
theorem dX6_lastDown_0 : decode cX6_lastDown 0 = .ok (.iload_n 0, 1) := by decide +kernel
theorem dX6_lastDown_1 : decode cX6_lastDown 1 = .ok (.bipush 10, 2) := by decide +kernel
theorem dX6_lastDown_3 : decode cX6_lastDown 3 = .ok (.idiv, 1) := by decide +kernel
theorem dX6_lastDown_4 : decode cX6_lastDown 4 = .ok (.iload_n 1, 1) := by decide +kernel
theorem dX6_lastDown_5 : decode cX6_lastDown 5 = .ok (.iload_n 0, 1) := by decide +kernel
theorem dX6_lastDown_6 : decode cX6_lastDown 6 = .ok (.bipush 10, 2) := by decide +kernel
theorem dX6_lastDown_8 : decode cX6_lastDown 8 = .ok (.irem, 1) := by decide +kernel
theorem dX6_lastDown_9 : decode cX6_lastDown 9 = .ok (.imul, 1) := by decide +kernel
theorem dX6_lastDown_10 : decode cX6_lastDown 10 = .ok (.iadd, 1) := by decide +kernel
theorem dX6_lastDown_11 : decode cX6_lastDown 11 = .ok (.ireturn, 1) := by decide +kernel
theorem dX6_caseAt_0 : decode cX6_caseAt 0 = .ok (.iload_n 1, 1) := by decide +kernel
theorem dX6_caseAt_1 : decode cX6_caseAt 1 = .ok (.ifCond .lt 20, 3) := by decide +kernel
theorem dX6_caseAt_4 : decode cX6_caseAt 4 = .ok (.iload_n 1, 1) := by decide +kernel
theorem dX6_caseAt_5 : decode cX6_caseAt 5 = .ok (.aload_n 0, 1) := by decide +kernel
theorem dX6_caseAt_6 : decode cX6_caseAt 6 = .ok (.getfield 18, 3) := by decide +kernel
theorem dX6_caseAt_9 : decode cX6_caseAt 9 = .ok (.if_icmp .ge 12, 3) := by decide +kernel
theorem dX6_caseAt_12 : decode cX6_caseAt 12 = .ok (.aload_n 0, 1) := by decide +kernel
theorem dX6_caseAt_13 : decode cX6_caseAt 13 = .ok (.getfield 9, 3) := by decide +kernel
theorem dX6_caseAt_16 : decode cX6_caseAt 16 = .ok (.iload_n 1, 1) := by decide +kernel
theorem dX6_caseAt_17 : decode cX6_caseAt 17 = .ok (.iaload, 1) := by decide +kernel
theorem dX6_caseAt_18 : decode cX6_caseAt 18 = .ok (.goto 5, 3) := by decide +kernel
theorem dX6_caseAt_21 : decode cX6_caseAt 21 = .ok (.bipush (-6), 2) := by decide +kernel
theorem dX6_caseAt_23 : decode cX6_caseAt 23 = .ok (.ireturn, 1) := by decide +kernel
theorem dX6_bestQuestion_0 : decode cX6_bestQuestion 0 = .ok (.bipush (-6), 2) := by decide +kernel
theorem dX6_bestQuestion_2 : decode cX6_bestQuestion 2 = .ok (.istore_n 1, 1) := by decide +kernel
theorem dX6_bestQuestion_3 : decode cX6_bestQuestion 3 = .ok (.sipush 411, 3) := by decide +kernel
theorem dX6_bestQuestion_6 : decode cX6_bestQuestion 6 = .ok (.istore_n 2, 1) := by decide +kernel
theorem dX6_bestQuestion_7 : decode cX6_bestQuestion 7 = .ok (.iconst 0, 1) := by decide +kernel
theorem dX6_bestQuestion_8 : decode cX6_bestQuestion 8 = .ok (.istore_n 3, 1) := by decide +kernel
theorem dX6_bestQuestion_9 : decode cX6_bestQuestion 9 = .ok (.iload_n 3, 1) := by decide +kernel
theorem dX6_bestQuestion_10 : decode cX6_bestQuestion 10 = .ok (.iconst 5, 1) := by decide +kernel
theorem dX6_bestQuestion_11 : decode cX6_bestQuestion 11 = .ok (.if_icmp .gt 83, 3) := by decide +kernel
theorem dX6_bestQuestion_14 : decode cX6_bestQuestion 14 = .ok (.aload_n 0, 1) := by decide +kernel
theorem dX6_bestQuestion_15 : decode cX6_bestQuestion 15 = .ok (.getfield 18, 3) := by decide +kernel
theorem dX6_bestQuestion_18 : decode cX6_bestQuestion 18 = .ok (.ifCond .le 76, 3) := by decide +kernel
theorem dX6_bestQuestion_21 : decode cX6_bestQuestion 21 = .ok (.aload_n 0, 1) := by decide +kernel
theorem dX6_bestQuestion_22 : decode cX6_bestQuestion 22 = .ok (.iload_n 3, 1) := by decide +kernel
theorem dX6_bestQuestion_23 : decode cX6_bestQuestion 23 = .ok (.invokevirtual 42, 3) := by decide +kernel
theorem dX6_bestQuestion_26 : decode cX6_bestQuestion 26 = .ok (.iconst 0, 1) := by decide +kernel
theorem dX6_bestQuestion_27 : decode cX6_bestQuestion 27 = .ok (.istore 4, 2) := by decide +kernel
theorem dX6_bestQuestion_29 : decode cX6_bestQuestion 29 = .ok (.iconst 0, 1) := by decide +kernel
theorem dX6_bestQuestion_30 : decode cX6_bestQuestion 30 = .ok (.istore 5, 2) := by decide +kernel
theorem dX6_bestQuestion_32 : decode cX6_bestQuestion 32 = .ok (.iload 5, 2) := by decide +kernel
theorem dX6_bestQuestion_34 : decode cX6_bestQuestion 34 = .ok (.bipush 100, 2) := by decide +kernel
theorem dX6_bestQuestion_36 : decode cX6_bestQuestion 36 = .ok (.if_icmp .ge 52, 3) := by decide +kernel
theorem dX6_bestQuestion_39 : decode cX6_bestQuestion 39 = .ok (.iload 4, 2) := by decide +kernel
theorem dX6_bestQuestion_41 : decode cX6_bestQuestion 41 = .ok (.aload_n 0, 1) := by decide +kernel
theorem dX6_bestQuestion_42 : decode cX6_bestQuestion 42 = .ok (.getfield 15, 3) := by decide +kernel
theorem dX6_bestQuestion_45 : decode cX6_bestQuestion 45 = .ok (.iload 5, 2) := by decide +kernel
theorem dX6_bestQuestion_47 : decode cX6_bestQuestion 47 = .ok (.iaload, 1) := by decide +kernel
theorem dX6_bestQuestion_48 : decode cX6_bestQuestion 48 = .ok (.iadd, 1) := by decide +kernel
theorem dX6_bestQuestion_49 : decode cX6_bestQuestion 49 = .ok (.istore 4, 2) := by decide +kernel
theorem dX6_bestQuestion_51 : decode cX6_bestQuestion 51 = .ok (.iload 4, 2) := by decide +kernel
theorem dX6_bestQuestion_53 : decode cX6_bestQuestion 53 = .ok (.aload_n 0, 1) := by decide +kernel
theorem dX6_bestQuestion_54 : decode cX6_bestQuestion 54 = .ok (.getfield 18, 3) := by decide +kernel
theorem dX6_bestQuestion_57 : decode cX6_bestQuestion 57 = .ok (.iload 4, 2) := by decide +kernel
theorem dX6_bestQuestion_59 : decode cX6_bestQuestion 59 = .ok (.isub, 1) := by decide +kernel
theorem dX6_bestQuestion_60 : decode cX6_bestQuestion 60 = .ok (.invokestatic 46, 3) := by decide +kernel
theorem dX6_bestQuestion_63 : decode cX6_bestQuestion 63 = .ok (.istore 6, 2) := by decide +kernel
theorem dX6_bestQuestion_65 : decode cX6_bestQuestion 65 = .ok (.iload 6, 2) := by decide +kernel
theorem dX6_bestQuestion_67 : decode cX6_bestQuestion 67 = .ok (.iload_n 2, 1) := by decide +kernel
theorem dX6_bestQuestion_68 : decode cX6_bestQuestion 68 = .ok (.if_icmp .ge 14, 3) := by decide +kernel
theorem dX6_bestQuestion_71 : decode cX6_bestQuestion 71 = .ok (.iload 6, 2) := by decide +kernel
theorem dX6_bestQuestion_73 : decode cX6_bestQuestion 73 = .ok (.istore_n 2, 1) := by decide +kernel
theorem dX6_bestQuestion_74 : decode cX6_bestQuestion 74 = .ok (.bipush 100, 2) := by decide +kernel
theorem dX6_bestQuestion_76 : decode cX6_bestQuestion 76 = .ok (.iload_n 3, 1) := by decide +kernel
theorem dX6_bestQuestion_77 : decode cX6_bestQuestion 77 = .ok (.imul, 1) := by decide +kernel
theorem dX6_bestQuestion_78 : decode cX6_bestQuestion 78 = .ok (.iload 5, 2) := by decide +kernel
theorem dX6_bestQuestion_80 : decode cX6_bestQuestion 80 = .ok (.iadd, 1) := by decide +kernel
theorem dX6_bestQuestion_81 : decode cX6_bestQuestion 81 = .ok (.istore_n 1, 1) := by decide +kernel
theorem dX6_bestQuestion_82 : decode cX6_bestQuestion 82 = .ok (.iinc 5 1, 3) := by decide +kernel
theorem dX6_bestQuestion_85 : decode cX6_bestQuestion 85 = .ok (.goto (-53), 3) := by decide +kernel
theorem dX6_bestQuestion_88 : decode cX6_bestQuestion 88 = .ok (.iinc 3 1, 3) := by decide +kernel
theorem dX6_bestQuestion_91 : decode cX6_bestQuestion 91 = .ok (.goto (-82), 3) := by decide +kernel
theorem dX6_bestQuestion_94 : decode cX6_bestQuestion 94 = .ok (.iload_n 1, 1) := by decide +kernel
theorem dX6_bestQuestion_95 : decode cX6_bestQuestion 95 = .ok (.ireturn, 1) := by decide +kernel
theorem dX6_tally_0 : decode cX6_tally 0 = .ok (.aload_n 0, 1) := by decide +kernel
theorem dX6_tally_1 : decode cX6_tally 1 = .ok (.getfield 15, 3) := by decide +kernel
theorem dX6_tally_4 : decode cX6_tally 4 = .ok (.iconst 0, 1) := by decide +kernel
theorem dX6_tally_5 : decode cX6_tally 5 = .ok (.invokestatic 51, 3) := by decide +kernel
theorem dX6_tally_8 : decode cX6_tally 8 = .ok (.iconst 0, 1) := by decide +kernel
theorem dX6_tally_9 : decode cX6_tally 9 = .ok (.istore_n 2, 1) := by decide +kernel
theorem dX6_tally_10 : decode cX6_tally 10 = .ok (.iload_n 2, 1) := by decide +kernel
theorem dX6_tally_11 : decode cX6_tally 11 = .ok (.aload_n 0, 1) := by decide +kernel
theorem dX6_tally_12 : decode cX6_tally 12 = .ok (.getfield 18, 3) := by decide +kernel
theorem dX6_tally_15 : decode cX6_tally 15 = .ok (.if_icmp .ge 76, 3) := by decide +kernel
theorem dX6_tally_18 : decode cX6_tally 18 = .ok (.aload_n 0, 1) := by decide +kernel
theorem dX6_tally_19 : decode cX6_tally 19 = .ok (.getfield 9, 3) := by decide +kernel
theorem dX6_tally_22 : decode cX6_tally 22 = .ok (.iload_n 2, 1) := by decide +kernel
theorem dX6_tally_23 : decode cX6_tally 23 = .ok (.iaload, 1) := by decide +kernel
theorem dX6_tally_24 : decode cX6_tally 24 = .ok (.bipush 10, 2) := by decide +kernel
theorem dX6_tally_26 : decode cX6_tally 26 = .ok (.idiv, 1) := by decide +kernel
theorem dX6_tally_27 : decode cX6_tally 27 = .ok (.istore_n 3, 1) := by decide +kernel
theorem dX6_tally_28 : decode cX6_tally 28 = .ok (.aload_n 0, 1) := by decide +kernel
theorem dX6_tally_29 : decode cX6_tally 29 = .ok (.getfield 9, 3) := by decide +kernel
theorem dX6_tally_32 : decode cX6_tally 32 = .ok (.iload_n 2, 1) := by decide +kernel
theorem dX6_tally_33 : decode cX6_tally 33 = .ok (.iaload, 1) := by decide +kernel
theorem dX6_tally_34 : decode cX6_tally 34 = .ok (.iload_n 1, 1) := by decide +kernel
theorem dX6_tally_35 : decode cX6_tally 35 = .ok (.invokestatic 38, 3) := by decide +kernel
theorem dX6_tally_38 : decode cX6_tally 38 = .ok (.iconst 1, 1) := by decide +kernel
theorem dX6_tally_39 : decode cX6_tally 39 = .ok (.iadd, 1) := by decide +kernel
theorem dX6_tally_40 : decode cX6_tally 40 = .ok (.istore 4, 2) := by decide +kernel
theorem dX6_tally_42 : decode cX6_tally 42 = .ok (.iload_n 3, 1) := by decide +kernel
theorem dX6_tally_43 : decode cX6_tally 43 = .ok (.ifCond .lt 42, 3) := by decide +kernel
theorem dX6_tally_46 : decode cX6_tally 46 = .ok (.iload_n 3, 1) := by decide +kernel
theorem dX6_tally_47 : decode cX6_tally 47 = .ok (.bipush 100, 2) := by decide +kernel
theorem dX6_tally_49 : decode cX6_tally 49 = .ok (.if_icmp .gt 36, 3) := by decide +kernel
theorem dX6_tally_52 : decode cX6_tally 52 = .ok (.iload 4, 2) := by decide +kernel
theorem dX6_tally_54 : decode cX6_tally 54 = .ok (.ifCond .lt 31, 3) := by decide +kernel
theorem dX6_tally_57 : decode cX6_tally 57 = .ok (.iload 4, 2) := by decide +kernel
theorem dX6_tally_59 : decode cX6_tally 59 = .ok (.bipush 100, 2) := by decide +kernel
theorem dX6_tally_61 : decode cX6_tally 61 = .ok (.if_icmp .gt 24, 3) := by decide +kernel
theorem dX6_tally_64 : decode cX6_tally 64 = .ok (.aload_n 0, 1) := by decide +kernel
theorem dX6_tally_65 : decode cX6_tally 65 = .ok (.getfield 15, 3) := by decide +kernel
theorem dX6_tally_68 : decode cX6_tally 68 = .ok (.iload_n 3, 1) := by decide +kernel
theorem dX6_tally_69 : decode cX6_tally 69 = .ok (.dup2, 1) := by decide +kernel
theorem dX6_tally_70 : decode cX6_tally 70 = .ok (.iaload, 1) := by decide +kernel
theorem dX6_tally_71 : decode cX6_tally 71 = .ok (.iconst 1, 1) := by decide +kernel
theorem dX6_tally_72 : decode cX6_tally 72 = .ok (.iadd, 1) := by decide +kernel
theorem dX6_tally_73 : decode cX6_tally 73 = .ok (.iastore, 1) := by decide +kernel
theorem dX6_tally_74 : decode cX6_tally 74 = .ok (.aload_n 0, 1) := by decide +kernel
theorem dX6_tally_75 : decode cX6_tally 75 = .ok (.getfield 15, 3) := by decide +kernel
theorem dX6_tally_78 : decode cX6_tally 78 = .ok (.iload 4, 2) := by decide +kernel
theorem dX6_tally_80 : decode cX6_tally 80 = .ok (.dup2, 1) := by decide +kernel
theorem dX6_tally_81 : decode cX6_tally 81 = .ok (.iaload, 1) := by decide +kernel
theorem dX6_tally_82 : decode cX6_tally 82 = .ok (.iconst 1, 1) := by decide +kernel
theorem dX6_tally_83 : decode cX6_tally 83 = .ok (.isub, 1) := by decide +kernel
theorem dX6_tally_84 : decode cX6_tally 84 = .ok (.iastore, 1) := by decide +kernel
theorem dX6_tally_85 : decode cX6_tally 85 = .ok (.iinc 2 1, 3) := by decide +kernel
theorem dX6_tally_88 : decode cX6_tally 88 = .ok (.goto (-78), 3) := by decide +kernel
theorem dX6_tally_91 : decode cX6_tally 91 = .ok (.return_, 1) := by decide +kernel
theorem dX6_leftAtMost_0 : decode cX6_leftAtMost 0 = .ok (.iconst 0, 1) := by decide +kernel
theorem dX6_leftAtMost_1 : decode cX6_leftAtMost 1 = .ok (.istore_n 2, 1) := by decide +kernel
theorem dX6_leftAtMost_2 : decode cX6_leftAtMost 2 = .ok (.iconst 0, 1) := by decide +kernel
theorem dX6_leftAtMost_3 : decode cX6_leftAtMost 3 = .ok (.istore_n 3, 1) := by decide +kernel
theorem dX6_leftAtMost_4 : decode cX6_leftAtMost 4 = .ok (.iload_n 3, 1) := by decide +kernel
theorem dX6_leftAtMost_5 : decode cX6_leftAtMost 5 = .ok (.aload_n 0, 1) := by decide +kernel
theorem dX6_leftAtMost_6 : decode cX6_leftAtMost 6 = .ok (.getfield 18, 3) := by decide +kernel
theorem dX6_leftAtMost_9 : decode cX6_leftAtMost 9 = .ok (.if_icmp .ge 32, 3) := by decide +kernel
theorem dX6_leftAtMost_12 : decode cX6_leftAtMost 12 = .ok (.aload_n 0, 1) := by decide +kernel
theorem dX6_leftAtMost_13 : decode cX6_leftAtMost 13 = .ok (.getfield 9, 3) := by decide +kernel
theorem dX6_leftAtMost_16 : decode cX6_leftAtMost 16 = .ok (.iload_n 3, 1) := by decide +kernel
theorem dX6_leftAtMost_17 : decode cX6_leftAtMost 17 = .ok (.iaload, 1) := by decide +kernel
theorem dX6_leftAtMost_18 : decode cX6_leftAtMost 18 = .ok (.iload_n 1, 1) := by decide +kernel
theorem dX6_leftAtMost_19 : decode cX6_leftAtMost 19 = .ok (.bipush 100, 2) := by decide +kernel
theorem dX6_leftAtMost_21 : decode cX6_leftAtMost 21 = .ok (.idiv, 1) := by decide +kernel
theorem dX6_leftAtMost_22 : decode cX6_leftAtMost 22 = .ok (.iload_n 1, 1) := by decide +kernel
theorem dX6_leftAtMost_23 : decode cX6_leftAtMost 23 = .ok (.bipush 100, 2) := by decide +kernel
theorem dX6_leftAtMost_25 : decode cX6_leftAtMost 25 = .ok (.irem, 1) := by decide +kernel
theorem dX6_leftAtMost_26 : decode cX6_leftAtMost 26 = .ok (.invokestatic 34, 3) := by decide +kernel
theorem dX6_leftAtMost_29 : decode cX6_leftAtMost 29 = .ok (.ifCond .eq 6, 3) := by decide +kernel
theorem dX6_leftAtMost_32 : decode cX6_leftAtMost 32 = .ok (.iinc 2 1, 3) := by decide +kernel
theorem dX6_leftAtMost_35 : decode cX6_leftAtMost 35 = .ok (.iinc 3 1, 3) := by decide +kernel
theorem dX6_leftAtMost_38 : decode cX6_leftAtMost 38 = .ok (.goto (-34), 3) := by decide +kernel
theorem dX6_leftAtMost_41 : decode cX6_leftAtMost 41 = .ok (.iload_n 2, 1) := by decide +kernel
theorem dX6_leftAtMost_42 : decode cX6_leftAtMost 42 = .ok (.aload_n 0, 1) := by decide +kernel
theorem dX6_leftAtMost_43 : decode cX6_leftAtMost 43 = .ok (.getfield 18, 3) := by decide +kernel
theorem dX6_leftAtMost_46 : decode cX6_leftAtMost 46 = .ok (.iload_n 2, 1) := by decide +kernel
theorem dX6_leftAtMost_47 : decode cX6_leftAtMost 47 = .ok (.isub, 1) := by decide +kernel
theorem dX6_leftAtMost_48 : decode cX6_leftAtMost 48 = .ok (.invokestatic 46, 3) := by decide +kernel
theorem dX6_leftAtMost_51 : decode cX6_leftAtMost 51 = .ok (.ireturn, 1) := by decide +kernel
theorem dX7_init_0 : decode cX7_init 0 = .ok (.aload_n 0, 1) := by decide +kernel
theorem dX7_init_1 : decode cX7_init 1 = .ok (.invokespecial 3, 3) := by decide +kernel
theorem dX7_init_4 : decode cX7_init 4 = .ok (.aload_n 0, 1) := by decide +kernel
theorem dX7_init_5 : decode cX7_init 5 = .ok (.iconst 0, 1) := by decide +kernel
theorem dX7_init_6 : decode cX7_init 6 = .ok (.putfield 9, 3) := by decide +kernel
theorem dX7_init_9 : decode cX7_init 9 = .ok (.aload_n 0, 1) := by decide +kernel
theorem dX7_init_10 : decode cX7_init 10 = .ok (.bipush (-6), 2) := by decide +kernel
theorem dX7_init_12 : decode cX7_init 12 = .ok (.putfield 15, 3) := by decide +kernel
theorem dX7_init_15 : decode cX7_init 15 = .ok (.aload_n 0, 1) := by decide +kernel
theorem dX7_init_16 : decode cX7_init 16 = .ok (.bipush (-6), 2) := by decide +kernel
theorem dX7_init_18 : decode cX7_init 18 = .ok (.putfield 18, 3) := by decide +kernel
theorem dX7_init_21 : decode cX7_init 21 = .ok (.aload_n 0, 1) := by decide +kernel
theorem dX7_init_22 : decode cX7_init 22 = .ok (.iconst 0, 1) := by decide +kernel
theorem dX7_init_23 : decode cX7_init 23 = .ok (.putfield 21, 3) := by decide +kernel
theorem dX7_init_26 : decode cX7_init 26 = .ok (.aload_n 0, 1) := by decide +kernel
theorem dX7_init_27 : decode cX7_init 27 = .ok (.bipush (-6), 2) := by decide +kernel
theorem dX7_init_29 : decode cX7_init 29 = .ok (.putfield 24, 3) := by decide +kernel
theorem dX7_init_32 : decode cX7_init 32 = .ok (.aload_n 0, 1) := by decide +kernel
theorem dX7_init_33 : decode cX7_init 33 = .ok (.bipush (-6), 2) := by decide +kernel
theorem dX7_init_35 : decode cX7_init 35 = .ok (.putfield 27, 3) := by decide +kernel
theorem dX7_init_38 : decode cX7_init 38 = .ok (.return_, 1) := by decide +kernel
theorem dX7_canBe_0 : decode cX7_canBe 0 = .ok (.aload_n 1, 1) := by decide +kernel
theorem dX7_canBe_1 : decode cX7_canBe 1 = .ok (.invokevirtual 30, 3) := by decide +kernel
theorem dX7_canBe_4 : decode cX7_canBe 4 = .ok (.bipush (-6), 2) := by decide +kernel
theorem dX7_canBe_6 : decode cX7_canBe 6 = .ok (.if_icmp .eq 5, 3) := by decide +kernel
theorem dX7_canBe_9 : decode cX7_canBe 9 = .ok (.iconst 0, 1) := by decide +kernel
theorem dX7_canBe_10 : decode cX7_canBe 10 = .ok (.ireturn, 1) := by decide +kernel
theorem dX7_canBe_11 : decode cX7_canBe 11 = .ok (.aload_n 0, 1) := by decide +kernel
theorem dX7_canBe_12 : decode cX7_canBe 12 = .ok (.invokevirtual 36, 3) := by decide +kernel
theorem dX7_canBe_15 : decode cX7_canBe 15 = .ok (.aload_n 3, 1) := by decide +kernel
theorem dX7_canBe_16 : decode cX7_canBe 16 = .ok (.aload_n 2, 1) := by decide +kernel
theorem dX7_canBe_17 : decode cX7_canBe 17 = .ok (.invokevirtual 39, 3) := by decide +kernel
theorem dX7_canBe_20 : decode cX7_canBe 20 = .ok (.iconst 0, 1) := by decide +kernel
theorem dX7_canBe_21 : decode cX7_canBe 21 = .ok (.istore 4, 2) := by decide +kernel
theorem dX7_canBe_23 : decode cX7_canBe 23 = .ok (.iconst 0, 1) := by decide +kernel
theorem dX7_canBe_24 : decode cX7_canBe 24 = .ok (.istore 5, 2) := by decide +kernel
theorem dX7_canBe_26 : decode cX7_canBe 26 = .ok (.iload 5, 2) := by decide +kernel
theorem dX7_canBe_28 : decode cX7_canBe 28 = .ok (.bipush 60, 2) := by decide +kernel
theorem dX7_canBe_30 : decode cX7_canBe 30 = .ok (.if_icmp .ge 66, 3) := by decide +kernel
theorem dX7_canBe_33 : decode cX7_canBe 33 = .ok (.iload 4, 2) := by decide +kernel
theorem dX7_canBe_35 : decode cX7_canBe 35 = .ok (.aload_n 1, 1) := by decide +kernel
theorem dX7_canBe_36 : decode cX7_canBe 36 = .ok (.invokevirtual 45, 3) := by decide +kernel
theorem dX7_canBe_39 : decode cX7_canBe 39 = .ok (.if_icmp .ge 57, 3) := by decide +kernel
theorem dX7_canBe_42 : decode cX7_canBe 42 = .ok (.aload_n 0, 1) := by decide +kernel
theorem dX7_canBe_43 : decode cX7_canBe 43 = .ok (.getfield 15, 3) := by decide +kernel
theorem dX7_canBe_46 : decode cX7_canBe 46 = .ok (.bipush (-6), 2) := by decide +kernel
theorem dX7_canBe_48 : decode cX7_canBe 48 = .ok (.if_icmp .ne 48, 3) := by decide +kernel
theorem dX7_canBe_51 : decode cX7_canBe 51 = .ok (.aload_n 1, 1) := by decide +kernel
theorem dX7_canBe_52 : decode cX7_canBe 52 = .ok (.iload 4, 2) := by decide +kernel
theorem dX7_canBe_54 : decode cX7_canBe 54 = .ok (.invokevirtual 48, 3) := by decide +kernel
theorem dX7_canBe_57 : decode cX7_canBe 57 = .ok (.istore 6, 2) := by decide +kernel
theorem dX7_canBe_59 : decode cX7_canBe 59 = .ok (.aload_n 0, 1) := by decide +kernel
theorem dX7_canBe_60 : decode cX7_canBe 60 = .ok (.aload_n 3, 1) := by decide +kernel
theorem dX7_canBe_61 : decode cX7_canBe 61 = .ok (.iload 6, 2) := by decide +kernel
theorem dX7_canBe_63 : decode cX7_canBe 63 = .ok (.aload_n 1, 1) := by decide +kernel
theorem dX7_canBe_64 : decode cX7_canBe 64 = .ok (.iload 4, 2) := by decide +kernel
theorem dX7_canBe_66 : decode cX7_canBe 66 = .ok (.invokevirtual 52, 3) := by decide +kernel
theorem dX7_canBe_69 : decode cX7_canBe 69 = .ok (.aload_n 1, 1) := by decide +kernel
theorem dX7_canBe_70 : decode cX7_canBe 70 = .ok (.iload 4, 2) := by decide +kernel
theorem dX7_canBe_72 : decode cX7_canBe 72 = .ok (.iload 6, 2) := by decide +kernel
theorem dX7_canBe_74 : decode cX7_canBe 74 = .ok (.invokevirtual 55, 3) := by decide +kernel
theorem dX7_canBe_77 : decode cX7_canBe 77 = .ok (.invokevirtual 59, 3) := by decide +kernel
theorem dX7_canBe_80 : decode cX7_canBe 80 = .ok (.iload 4, 2) := by decide +kernel
theorem dX7_canBe_82 : decode cX7_canBe 82 = .ok (.iload 6, 2) := by decide +kernel
theorem dX7_canBe_84 : decode cX7_canBe 84 = .ok (.invokestatic 63, 3) := by decide +kernel
theorem dX7_canBe_87 : decode cX7_canBe 87 = .ok (.iadd, 1) := by decide +kernel
theorem dX7_canBe_88 : decode cX7_canBe 88 = .ok (.istore 4, 2) := by decide +kernel
theorem dX7_canBe_90 : decode cX7_canBe 90 = .ok (.iinc 5 1, 3) := by decide +kernel
theorem dX7_canBe_93 : decode cX7_canBe 93 = .ok (.goto (-67), 3) := by decide +kernel
theorem dX7_canBe_96 : decode cX7_canBe 96 = .ok (.aload_n 0, 1) := by decide +kernel
theorem dX7_canBe_97 : decode cX7_canBe 97 = .ok (.getfield 15, 3) := by decide +kernel
theorem dX7_canBe_100 : decode cX7_canBe 100 = .ok (.bipush (-6), 2) := by decide +kernel
theorem dX7_canBe_102 : decode cX7_canBe 102 = .ok (.if_icmp .ne 7, 3) := by decide +kernel
theorem dX7_canBe_105 : decode cX7_canBe 105 = .ok (.iconst 1, 1) := by decide +kernel
theorem dX7_canBe_106 : decode cX7_canBe 106 = .ok (.goto 4, 3) := by decide +kernel
theorem dX7_canBe_109 : decode cX7_canBe 109 = .ok (.iconst 0, 1) := by decide +kernel
theorem dX7_canBe_110 : decode cX7_canBe 110 = .ok (.ireturn, 1) := by decide +kernel
theorem dX7_begin_0 : decode cX7_begin 0 = .ok (.aload_n 0, 1) := by decide +kernel
theorem dX7_begin_1 : decode cX7_begin 1 = .ok (.iconst 0, 1) := by decide +kernel
theorem dX7_begin_2 : decode cX7_begin 2 = .ok (.putfield 9, 3) := by decide +kernel
theorem dX7_begin_5 : decode cX7_begin 5 = .ok (.aload_n 0, 1) := by decide +kernel
theorem dX7_begin_6 : decode cX7_begin 6 = .ok (.bipush (-6), 2) := by decide +kernel
theorem dX7_begin_8 : decode cX7_begin 8 = .ok (.putfield 15, 3) := by decide +kernel
theorem dX7_begin_11 : decode cX7_begin 11 = .ok (.aload_n 0, 1) := by decide +kernel
theorem dX7_begin_12 : decode cX7_begin 12 = .ok (.bipush (-6), 2) := by decide +kernel
theorem dX7_begin_14 : decode cX7_begin 14 = .ok (.putfield 18, 3) := by decide +kernel
theorem dX7_begin_17 : decode cX7_begin 17 = .ok (.aload_n 0, 1) := by decide +kernel
theorem dX7_begin_18 : decode cX7_begin 18 = .ok (.iconst 0, 1) := by decide +kernel
theorem dX7_begin_19 : decode cX7_begin 19 = .ok (.putfield 21, 3) := by decide +kernel
theorem dX7_begin_22 : decode cX7_begin 22 = .ok (.aload_n 0, 1) := by decide +kernel
theorem dX7_begin_23 : decode cX7_begin 23 = .ok (.bipush (-6), 2) := by decide +kernel
theorem dX7_begin_25 : decode cX7_begin 25 = .ok (.putfield 24, 3) := by decide +kernel
theorem dX7_begin_28 : decode cX7_begin 28 = .ok (.aload_n 0, 1) := by decide +kernel
theorem dX7_begin_29 : decode cX7_begin 29 = .ok (.bipush (-6), 2) := by decide +kernel
theorem dX7_begin_31 : decode cX7_begin 31 = .ok (.putfield 27, 3) := by decide +kernel
theorem dX7_begin_34 : decode cX7_begin 34 = .ok (.return_, 1) := by decide +kernel
theorem dX7_runAct_0 : decode cX7_runAct 0 = .ok (.aload_n 1, 1) := by decide +kernel
theorem dX7_runAct_1 : decode cX7_runAct 1 = .ok (.iload_n 2, 1) := by decide +kernel
theorem dX7_runAct_2 : decode cX7_runAct 2 = .ok (.iload_n 3, 1) := by decide +kernel
theorem dX7_runAct_3 : decode cX7_runAct 3 = .ok (.iload 4, 2) := by decide +kernel
theorem dX7_runAct_5 : decode cX7_runAct 5 = .ok (.invokevirtual 66, 3) := by decide +kernel
theorem dX7_runAct_8 : decode cX7_runAct 8 = .ok (.istore 5, 2) := by decide +kernel
theorem dX7_runAct_10 : decode cX7_runAct 10 = .ok (.iload 5, 2) := by decide +kernel
theorem dX7_runAct_12 : decode cX7_runAct 12 = .ok (.ifCond .eq 18, 3) := by decide +kernel
theorem dX7_runAct_15 : decode cX7_runAct 15 = .ok (.aload_n 0, 1) := by decide +kernel
theorem dX7_runAct_16 : decode cX7_runAct 16 = .ok (.aload_n 0, 1) := by decide +kernel
theorem dX7_runAct_17 : decode cX7_runAct 17 = .ok (.getfield 9, 3) := by decide +kernel
theorem dX7_runAct_20 : decode cX7_runAct 20 = .ok (.putfield 15, 3) := by decide +kernel
theorem dX7_runAct_23 : decode cX7_runAct 23 = .ok (.aload_n 0, 1) := by decide +kernel
theorem dX7_runAct_24 : decode cX7_runAct 24 = .ok (.iload 5, 2) := by decide +kernel
theorem dX7_runAct_26 : decode cX7_runAct 26 = .ok (.putfield 18, 3) := by decide +kernel
theorem dX7_runAct_29 : decode cX7_runAct 29 = .ok (.return_, 1) := by decide +kernel
theorem dX7_runAct_30 : decode cX7_runAct 30 = .ok (.iload_n 2, 1) := by decide +kernel
theorem dX7_runAct_31 : decode cX7_runAct 31 = .ok (.ifCond .ne 23, 3) := by decide +kernel
theorem dX7_runAct_34 : decode cX7_runAct 34 = .ok (.aload_n 0, 1) := by decide +kernel
theorem dX7_runAct_35 : decode cX7_runAct 35 = .ok (.dup, 1) := by decide +kernel
theorem dX7_runAct_36 : decode cX7_runAct 36 = .ok (.getfield 21, 3) := by decide +kernel
theorem dX7_runAct_39 : decode cX7_runAct 39 = .ok (.aload_n 1, 1) := by decide +kernel
theorem dX7_runAct_40 : decode cX7_runAct 40 = .ok (.aload_n 1, 1) := by decide +kernel
theorem dX7_runAct_41 : decode cX7_runAct 41 = .ok (.iload_n 3, 1) := by decide +kernel
theorem dX7_runAct_42 : decode cX7_runAct 42 = .ok (.invokevirtual 70, 3) := by decide +kernel
theorem dX7_runAct_45 : decode cX7_runAct 45 = .ok (.iload 4, 2) := by decide +kernel
theorem dX7_runAct_47 : decode cX7_runAct 47 = .ok (.invokevirtual 73, 3) := by decide +kernel
theorem dX7_runAct_50 : decode cX7_runAct 50 = .ok (.iadd, 1) := by decide +kernel
theorem dX7_runAct_51 : decode cX7_runAct 51 = .ok (.putfield 21, 3) := by decide +kernel
theorem dX7_runAct_54 : decode cX7_runAct 54 = .ok (.aload_n 0, 1) := by decide +kernel
theorem dX7_runAct_55 : decode cX7_runAct 55 = .ok (.aload_n 1, 1) := by decide +kernel
theorem dX7_runAct_56 : decode cX7_runAct 56 = .ok (.iload_n 2, 1) := by decide +kernel
theorem dX7_runAct_57 : decode cX7_runAct 57 = .ok (.iload_n 3, 1) := by decide +kernel
theorem dX7_runAct_58 : decode cX7_runAct 58 = .ok (.iload 4, 2) := by decide +kernel
theorem dX7_runAct_60 : decode cX7_runAct 60 = .ok (.invokevirtual 76, 3) := by decide +kernel
theorem dX7_runAct_63 : decode cX7_runAct 63 = .ok (.invokevirtual 79, 3) := by decide +kernel
theorem dX7_runAct_66 : decode cX7_runAct 66 = .ok (.aload_n 1, 1) := by decide +kernel
theorem dX7_runAct_67 : decode cX7_runAct 67 = .ok (.iload_n 2, 1) := by decide +kernel
theorem dX7_runAct_68 : decode cX7_runAct 68 = .ok (.iload_n 3, 1) := by decide +kernel
theorem dX7_runAct_69 : decode cX7_runAct 69 = .ok (.iload 4, 2) := by decide +kernel
theorem dX7_runAct_71 : decode cX7_runAct 71 = .ok (.invokevirtual 83, 3) := by decide +kernel
theorem dX7_runAct_74 : decode cX7_runAct 74 = .ok (.aload_n 0, 1) := by decide +kernel
theorem dX7_runAct_75 : decode cX7_runAct 75 = .ok (.dup, 1) := by decide +kernel
theorem dX7_runAct_76 : decode cX7_runAct 76 = .ok (.getfield 9, 3) := by decide +kernel
theorem dX7_runAct_79 : decode cX7_runAct 79 = .ok (.iconst 1, 1) := by decide +kernel
theorem dX7_runAct_80 : decode cX7_runAct 80 = .ok (.iadd, 1) := by decide +kernel
theorem dX7_runAct_81 : decode cX7_runAct 81 = .ok (.putfield 9, 3) := by decide +kernel
theorem dX7_runAct_84 : decode cX7_runAct 84 = .ok (.return_, 1) := by decide +kernel
theorem dX7_noteGap_0 : decode cX7_noteGap 0 = .ok (.iload_n 1, 1) := by decide +kernel
theorem dX7_noteGap_1 : decode cX7_noteGap 1 = .ok (.bipush (-6), 2) := by decide +kernel
theorem dX7_noteGap_3 : decode cX7_noteGap 3 = .ok (.if_icmp .eq 25, 3) := by decide +kernel
theorem dX7_noteGap_6 : decode cX7_noteGap 6 = .ok (.aload_n 0, 1) := by decide +kernel
theorem dX7_noteGap_7 : decode cX7_noteGap 7 = .ok (.getfield 27, 3) := by decide +kernel
theorem dX7_noteGap_10 : decode cX7_noteGap 10 = .ok (.bipush (-6), 2) := by decide +kernel
theorem dX7_noteGap_12 : decode cX7_noteGap 12 = .ok (.if_icmp .ne 16, 3) := by decide +kernel
theorem dX7_noteGap_15 : decode cX7_noteGap 15 = .ok (.aload_n 0, 1) := by decide +kernel
theorem dX7_noteGap_16 : decode cX7_noteGap 16 = .ok (.iload_n 1, 1) := by decide +kernel
theorem dX7_noteGap_17 : decode cX7_noteGap 17 = .ok (.putfield 27, 3) := by decide +kernel
theorem dX7_noteGap_20 : decode cX7_noteGap 20 = .ok (.aload_n 0, 1) := by decide +kernel
theorem dX7_noteGap_21 : decode cX7_noteGap 21 = .ok (.aload_n 0, 1) := by decide +kernel
theorem dX7_noteGap_22 : decode cX7_noteGap 22 = .ok (.getfield 9, 3) := by decide +kernel
theorem dX7_noteGap_25 : decode cX7_noteGap 25 = .ok (.putfield 24, 3) := by decide +kernel
theorem dX7_noteGap_28 : decode cX7_noteGap 28 = .ok (.return_, 1) := by decide +kernel
theorem dX8_init_0 : decode cX8_init 0 = .ok (.aload_n 0, 1) := by decide +kernel
theorem dX8_init_1 : decode cX8_init 1 = .ok (.invokespecial 1, 3) := by decide +kernel
theorem dX8_init_4 : decode cX8_init 4 = .ok (.aload_n 0, 1) := by decide +kernel
theorem dX8_init_5 : decode cX8_init 5 = .ok (.new 7, 3) := by decide +kernel
theorem dX8_init_8 : decode cX8_init 8 = .ok (.dup, 1) := by decide +kernel
theorem dX8_init_9 : decode cX8_init 9 = .ok (.invokespecial 9, 3) := by decide +kernel
theorem dX8_init_12 : decode cX8_init 12 = .ok (.putfield 10, 3) := by decide +kernel
theorem dX8_init_15 : decode cX8_init 15 = .ok (.aload_n 0, 1) := by decide +kernel
theorem dX8_init_16 : decode cX8_init 16 = .ok (.new 16, 3) := by decide +kernel
theorem dX8_init_19 : decode cX8_init 19 = .ok (.dup, 1) := by decide +kernel
theorem dX8_init_20 : decode cX8_init 20 = .ok (.invokespecial 18, 3) := by decide +kernel
theorem dX8_init_23 : decode cX8_init 23 = .ok (.putfield 19, 3) := by decide +kernel
theorem dX8_init_26 : decode cX8_init 26 = .ok (.aload_n 0, 1) := by decide +kernel
theorem dX8_init_27 : decode cX8_init 27 = .ok (.new 23, 3) := by decide +kernel
theorem dX8_init_30 : decode cX8_init 30 = .ok (.dup, 1) := by decide +kernel
theorem dX8_init_31 : decode cX8_init 31 = .ok (.invokespecial 25, 3) := by decide +kernel
theorem dX8_init_34 : decode cX8_init 34 = .ok (.putfield 26, 3) := by decide +kernel
theorem dX8_init_37 : decode cX8_init 37 = .ok (.aload_n 0, 1) := by decide +kernel
theorem dX8_init_38 : decode cX8_init 38 = .ok (.iconst 0, 1) := by decide +kernel
theorem dX8_init_39 : decode cX8_init 39 = .ok (.putfield 30, 3) := by decide +kernel
theorem dX8_init_42 : decode cX8_init 42 = .ok (.return_, 1) := by decide +kernel
theorem dX8_copyFrom_0 : decode cX8_copyFrom 0 = .ok (.aload_n 0, 1) := by decide +kernel
theorem dX8_copyFrom_1 : decode cX8_copyFrom 1 = .ok (.getfield 10, 3) := by decide +kernel
theorem dX8_copyFrom_4 : decode cX8_copyFrom 4 = .ok (.aload_n 1, 1) := by decide +kernel
theorem dX8_copyFrom_5 : decode cX8_copyFrom 5 = .ok (.getfield 10, 3) := by decide +kernel
theorem dX8_copyFrom_8 : decode cX8_copyFrom 8 = .ok (.invokevirtual 34, 3) := by decide +kernel
theorem dX8_copyFrom_11 : decode cX8_copyFrom 11 = .ok (.aload_n 0, 1) := by decide +kernel
theorem dX8_copyFrom_12 : decode cX8_copyFrom 12 = .ok (.getfield 19, 3) := by decide +kernel
theorem dX8_copyFrom_15 : decode cX8_copyFrom 15 = .ok (.aload_n 1, 1) := by decide +kernel
theorem dX8_copyFrom_16 : decode cX8_copyFrom 16 = .ok (.getfield 19, 3) := by decide +kernel
theorem dX8_copyFrom_19 : decode cX8_copyFrom 19 = .ok (.invokevirtual 38, 3) := by decide +kernel
theorem dX8_copyFrom_22 : decode cX8_copyFrom 22 = .ok (.aload_n 0, 1) := by decide +kernel
theorem dX8_copyFrom_23 : decode cX8_copyFrom 23 = .ok (.getfield 26, 3) := by decide +kernel
theorem dX8_copyFrom_26 : decode cX8_copyFrom 26 = .ok (.aload_n 1, 1) := by decide +kernel
theorem dX8_copyFrom_27 : decode cX8_copyFrom 27 = .ok (.getfield 26, 3) := by decide +kernel
theorem dX8_copyFrom_30 : decode cX8_copyFrom 30 = .ok (.invokevirtual 41, 3) := by decide +kernel
theorem dX8_copyFrom_33 : decode cX8_copyFrom 33 = .ok (.return_, 1) := by decide +kernel
theorem dX9_init_0 : decode cX9_init 0 = .ok (.aload_n 0, 1) := by decide +kernel
theorem dX9_init_1 : decode cX9_init 1 = .ok (.invokespecial 3, 3) := by decide +kernel
theorem dX9_init_4 : decode cX9_init 4 = .ok (.aload_n 0, 1) := by decide +kernel
theorem dX9_init_5 : decode cX9_init 5 = .ok (.new 9, 3) := by decide +kernel
theorem dX9_init_8 : decode cX9_init 8 = .ok (.dup, 1) := by decide +kernel
theorem dX9_init_9 : decode cX9_init 9 = .ok (.invokespecial 11, 3) := by decide +kernel
theorem dX9_init_12 : decode cX9_init 12 = .ok (.putfield 12, 3) := by decide +kernel
theorem dX9_init_15 : decode cX9_init 15 = .ok (.aload_n 0, 1) := by decide +kernel
theorem dX9_init_16 : decode cX9_init 16 = .ok (.new 9, 3) := by decide +kernel
theorem dX9_init_19 : decode cX9_init 19 = .ok (.dup, 1) := by decide +kernel
theorem dX9_init_20 : decode cX9_init 20 = .ok (.invokespecial 11, 3) := by decide +kernel
theorem dX9_init_23 : decode cX9_init 23 = .ok (.putfield 16, 3) := by decide +kernel
theorem dX9_init_26 : decode cX9_init 26 = .ok (.aload_n 0, 1) := by decide +kernel
theorem dX9_init_27 : decode cX9_init 27 = .ok (.new 9, 3) := by decide +kernel
theorem dX9_init_30 : decode cX9_init 30 = .ok (.dup, 1) := by decide +kernel
theorem dX9_init_31 : decode cX9_init 31 = .ok (.invokespecial 11, 3) := by decide +kernel
theorem dX9_init_34 : decode cX9_init 34 = .ok (.putfield 19, 3) := by decide +kernel
theorem dX9_init_37 : decode cX9_init 37 = .ok (.aload_n 0, 1) := by decide +kernel
theorem dX9_init_38 : decode cX9_init 38 = .ok (.new 22, 3) := by decide +kernel
theorem dX9_init_41 : decode cX9_init 41 = .ok (.dup, 1) := by decide +kernel
theorem dX9_init_42 : decode cX9_init 42 = .ok (.invokespecial 24, 3) := by decide +kernel
theorem dX9_init_45 : decode cX9_init 45 = .ok (.putfield 25, 3) := by decide +kernel
theorem dX9_init_48 : decode cX9_init 48 = .ok (.aload_n 0, 1) := by decide +kernel
theorem dX9_init_49 : decode cX9_init 49 = .ok (.new 29, 3) := by decide +kernel
theorem dX9_init_52 : decode cX9_init 52 = .ok (.dup, 1) := by decide +kernel
theorem dX9_init_53 : decode cX9_init 53 = .ok (.invokespecial 31, 3) := by decide +kernel
theorem dX9_init_56 : decode cX9_init 56 = .ok (.putfield 32, 3) := by decide +kernel
theorem dX9_init_59 : decode cX9_init 59 = .ok (.aload_n 0, 1) := by decide +kernel
theorem dX9_init_60 : decode cX9_init 60 = .ok (.new 36, 3) := by decide +kernel
theorem dX9_init_63 : decode cX9_init 63 = .ok (.dup, 1) := by decide +kernel
theorem dX9_init_64 : decode cX9_init 64 = .ok (.invokespecial 38, 3) := by decide +kernel
theorem dX9_init_67 : decode cX9_init 67 = .ok (.putfield 39, 3) := by decide +kernel
theorem dX9_init_70 : decode cX9_init 70 = .ok (.aload_n 0, 1) := by decide +kernel
theorem dX9_init_71 : decode cX9_init 71 = .ok (.new 43, 3) := by decide +kernel
theorem dX9_init_74 : decode cX9_init 74 = .ok (.dup, 1) := by decide +kernel
theorem dX9_init_75 : decode cX9_init 75 = .ok (.invokespecial 45, 3) := by decide +kernel
theorem dX9_init_78 : decode cX9_init 78 = .ok (.putfield 46, 3) := by decide +kernel
theorem dX9_init_81 : decode cX9_init 81 = .ok (.aload_n 0, 1) := by decide +kernel
theorem dX9_init_82 : decode cX9_init 82 = .ok (.new 50, 3) := by decide +kernel
theorem dX9_init_85 : decode cX9_init 85 = .ok (.dup, 1) := by decide +kernel
theorem dX9_init_86 : decode cX9_init 86 = .ok (.invokespecial 52, 3) := by decide +kernel
theorem dX9_init_89 : decode cX9_init 89 = .ok (.putfield 53, 3) := by decide +kernel
theorem dX9_init_92 : decode cX9_init 92 = .ok (.return_, 1) := by decide +kernel
theorem dX9_pale_0 : decode cX9_pale 0 = .ok (.iload_n 1, 1) := by decide +kernel
theorem dX9_pale_1 : decode cX9_pale 1 = .ok (.iload_n 2, 1) := by decide +kernel
theorem dX9_pale_2 : decode cX9_pale 2 = .ok (.invokestatic 57, 3) := by decide +kernel
theorem dX9_pale_5 : decode cX9_pale 5 = .ok (.ifCond .ne 5, 3) := by decide +kernel
theorem dX9_pale_8 : decode cX9_pale 8 = .ok (.iconst (-1), 1) := by decide +kernel
theorem dX9_pale_9 : decode cX9_pale 9 = .ok (.ireturn, 1) := by decide +kernel
theorem dX9_pale_10 : decode cX9_pale 10 = .ok (.iload_n 3, 1) := by decide +kernel
theorem dX9_pale_11 : decode cX9_pale 11 = .ok (.iconst (-1), 1) := by decide +kernel
theorem dX9_pale_12 : decode cX9_pale 12 = .ok (.if_icmp .lt 9, 3) := by decide +kernel
theorem dX9_pale_15 : decode cX9_pale 15 = .ok (.iload_n 3, 1) := by decide +kernel
theorem dX9_pale_16 : decode cX9_pale 16 = .ok (.bipush 9, 2) := by decide +kernel
theorem dX9_pale_18 : decode cX9_pale 18 = .ok (.if_icmp .le 6, 3) := by decide +kernel
theorem dX9_pale_21 : decode cX9_pale 21 = .ok (.bipush (-2), 2) := by decide +kernel
theorem dX9_pale_23 : decode cX9_pale 23 = .ok (.ireturn, 1) := by decide +kernel
theorem dX9_pale_24 : decode cX9_pale 24 = .ok (.aload_n 0, 1) := by decide +kernel
theorem dX9_pale_25 : decode cX9_pale 25 = .ok (.getfield 12, 3) := by decide +kernel
theorem dX9_pale_28 : decode cX9_pale 28 = .ok (.getfield 61, 3) := by decide +kernel
theorem dX9_pale_31 : decode cX9_pale 31 = .ok (.iload_n 1, 1) := by decide +kernel
theorem dX9_pale_32 : decode cX9_pale 32 = .ok (.iload_n 2, 1) := by decide +kernel
theorem dX9_pale_33 : decode cX9_pale 33 = .ok (.iload_n 3, 1) := by decide +kernel
theorem dX9_pale_34 : decode cX9_pale 34 = .ok (.ifCond .ge 8, 3) := by decide +kernel
theorem dX9_pale_37 : decode cX9_pale 37 = .ok (.bipush (-6), 2) := by decide +kernel
theorem dX9_pale_39 : decode cX9_pale 39 = .ok (.goto 4, 3) := by decide +kernel
theorem dX9_pale_42 : decode cX9_pale 42 = .ok (.iload_n 3, 1) := by decide +kernel
theorem dX9_pale_43 : decode cX9_pale 43 = .ok (.invokevirtual 64, 3) := by decide +kernel
theorem dX9_pale_46 : decode cX9_pale 46 = .ok (.aload_n 0, 1) := by decide +kernel
theorem dX9_pale_47 : decode cX9_pale 47 = .ok (.getfield 12, 3) := by decide +kernel
theorem dX9_pale_50 : decode cX9_pale 50 = .ok (.getfield 61, 3) := by decide +kernel
theorem dX9_pale_53 : decode cX9_pale 53 = .ok (.invokevirtual 68, 3) := by decide +kernel
theorem dX9_pale_56 : decode cX9_pale 56 = .ok (.ireturn, 1) := by decide +kernel
theorem dX9_road_0 : decode cX9_road 0 = .ok (.iload_n 1, 1) := by decide +kernel
theorem dX9_road_1 : decode cX9_road 1 = .ok (.iload_n 2, 1) := by decide +kernel
theorem dX9_road_2 : decode cX9_road 2 = .ok (.invokestatic 57, 3) := by decide +kernel
theorem dX9_road_5 : decode cX9_road 5 = .ok (.ifCond .ne 5, 3) := by decide +kernel
theorem dX9_road_8 : decode cX9_road 8 = .ok (.iconst (-1), 1) := by decide +kernel
theorem dX9_road_9 : decode cX9_road 9 = .ok (.ireturn, 1) := by decide +kernel
theorem dX9_road_10 : decode cX9_road 10 = .ok (.iload_n 3, 1) := by decide +kernel
theorem dX9_road_11 : decode cX9_road 11 = .ok (.ifCond .lt 9, 3) := by decide +kernel
theorem dX9_road_14 : decode cX9_road 14 = .ok (.iload_n 3, 1) := by decide +kernel
theorem dX9_road_15 : decode cX9_road 15 = .ok (.bipush 9, 2) := by decide +kernel
theorem dX9_road_17 : decode cX9_road 17 = .ok (.if_icmp .le 6, 3) := by decide +kernel
theorem dX9_road_20 : decode cX9_road 20 = .ok (.bipush (-2), 2) := by decide +kernel
theorem dX9_road_22 : decode cX9_road 22 = .ok (.ireturn, 1) := by decide +kernel
theorem dX9_road_23 : decode cX9_road 23 = .ok (.aload_n 0, 1) := by decide +kernel
theorem dX9_road_24 : decode cX9_road 24 = .ok (.getfield 12, 3) := by decide +kernel
theorem dX9_road_27 : decode cX9_road 27 = .ok (.getfield 61, 3) := by decide +kernel
theorem dX9_road_30 : decode cX9_road 30 = .ok (.iload_n 1, 1) := by decide +kernel
theorem dX9_road_31 : decode cX9_road 31 = .ok (.iload_n 2, 1) := by decide +kernel
theorem dX9_road_32 : decode cX9_road 32 = .ok (.invokevirtual 72, 3) := by decide +kernel
theorem dX9_road_35 : decode cX9_road 35 = .ok (.istore 4, 2) := by decide +kernel
theorem dX9_road_37 : decode cX9_road 37 = .ok (.aload_n 0, 1) := by decide +kernel
theorem dX9_road_38 : decode cX9_road 38 = .ok (.getfield 12, 3) := by decide +kernel
theorem dX9_road_41 : decode cX9_road 41 = .ok (.getfield 61, 3) := by decide +kernel
theorem dX9_road_44 : decode cX9_road 44 = .ok (.iload_n 1, 1) := by decide +kernel
theorem dX9_road_45 : decode cX9_road 45 = .ok (.iload_n 2, 1) := by decide +kernel
theorem dX9_road_46 : decode cX9_road 46 = .ok (.iload_n 3, 1) := by decide +kernel
theorem dX9_road_47 : decode cX9_road 47 = .ok (.invokevirtual 76, 3) := by decide +kernel
theorem dX9_road_50 : decode cX9_road 50 = .ok (.iload 4, 2) := by decide +kernel
theorem dX9_road_52 : decode cX9_road 52 = .ok (.ireturn, 1) := by decide +kernel
theorem dX9_farm_0 : decode cX9_farm 0 = .ok (.iload_n 1, 1) := by decide +kernel
theorem dX9_farm_1 : decode cX9_farm 1 = .ok (.invokestatic 79, 3) := by decide +kernel
theorem dX9_farm_4 : decode cX9_farm 4 = .ok (.ifCond .eq 10, 3) := by decide +kernel
theorem dX9_farm_7 : decode cX9_farm 7 = .ok (.iload_n 3, 1) := by decide +kernel
theorem dX9_farm_8 : decode cX9_farm 8 = .ok (.invokestatic 79, 3) := by decide +kernel
theorem dX9_farm_11 : decode cX9_farm 11 = .ok (.ifCond .ne 5, 3) := by decide +kernel
theorem dX9_farm_14 : decode cX9_farm 14 = .ok (.iconst (-1), 1) := by decide +kernel
theorem dX9_farm_15 : decode cX9_farm 15 = .ok (.ireturn, 1) := by decide +kernel
theorem dX9_farm_16 : decode cX9_farm 16 = .ok (.iload_n 2, 1) := by decide +kernel
theorem dX9_farm_17 : decode cX9_farm 17 = .ok (.ifCond .lt 9, 3) := by decide +kernel
theorem dX9_farm_20 : decode cX9_farm 20 = .ok (.iload_n 2, 1) := by decide +kernel
theorem dX9_farm_21 : decode cX9_farm 21 = .ok (.bipush 99, 2) := by decide +kernel
theorem dX9_farm_23 : decode cX9_farm 23 = .ok (.if_icmp .le 6, 3) := by decide +kernel
theorem dX9_farm_26 : decode cX9_farm 26 = .ok (.bipush (-2), 2) := by decide +kernel
theorem dX9_farm_28 : decode cX9_farm 28 = .ok (.ireturn, 1) := by decide +kernel
theorem dX9_farm_29 : decode cX9_farm 29 = .ok (.aload_n 0, 1) := by decide +kernel
theorem dX9_farm_30 : decode cX9_farm 30 = .ok (.getfield 12, 3) := by decide +kernel
theorem dX9_farm_33 : decode cX9_farm 33 = .ok (.getfield 61, 3) := by decide +kernel
theorem dX9_farm_36 : decode cX9_farm 36 = .ok (.iload_n 1, 1) := by decide +kernel
theorem dX9_farm_37 : decode cX9_farm 37 = .ok (.invokevirtual 83, 3) := by decide +kernel
theorem dX9_farm_40 : decode cX9_farm 40 = .ok (.istore 4, 2) := by decide +kernel
theorem dX9_farm_42 : decode cX9_farm 42 = .ok (.aload_n 0, 1) := by decide +kernel
theorem dX9_farm_43 : decode cX9_farm 43 = .ok (.getfield 12, 3) := by decide +kernel
theorem dX9_farm_46 : decode cX9_farm 46 = .ok (.getfield 61, 3) := by decide +kernel
theorem dX9_farm_49 : decode cX9_farm 49 = .ok (.iload_n 1, 1) := by decide +kernel
theorem dX9_farm_50 : decode cX9_farm 50 = .ok (.iload_n 2, 1) := by decide +kernel
theorem dX9_farm_51 : decode cX9_farm 51 = .ok (.iload_n 3, 1) := by decide +kernel
theorem dX9_farm_52 : decode cX9_farm 52 = .ok (.invokevirtual 87, 3) := by decide +kernel
theorem dX9_farm_55 : decode cX9_farm 55 = .ok (.iload 4, 2) := by decide +kernel
theorem dX9_farm_57 : decode cX9_farm 57 = .ok (.ireturn, 1) := by decide +kernel
theorem dX9_likes_0 : decode cX9_likes 0 = .ok (.iload_n 1, 1) := by decide +kernel
theorem dX9_likes_1 : decode cX9_likes 1 = .ok (.iload_n 2, 1) := by decide +kernel
theorem dX9_likes_2 : decode cX9_likes 2 = .ok (.invokestatic 90, 3) := by decide +kernel
theorem dX9_likes_5 : decode cX9_likes 5 = .ok (.ifCond .ne 5, 3) := by decide +kernel
theorem dX9_likes_8 : decode cX9_likes 8 = .ok (.iconst (-1), 1) := by decide +kernel
theorem dX9_likes_9 : decode cX9_likes 9 = .ok (.ireturn, 1) := by decide +kernel
theorem dX9_likes_10 : decode cX9_likes 10 = .ok (.iload_n 3, 1) := by decide +kernel
theorem dX9_likes_11 : decode cX9_likes 11 = .ok (.invokestatic 93, 3) := by decide +kernel
theorem dX9_likes_14 : decode cX9_likes 14 = .ok (.ifCond .ne 6, 3) := by decide +kernel
theorem dX9_likes_17 : decode cX9_likes 17 = .ok (.bipush (-2), 2) := by decide +kernel
theorem dX9_likes_19 : decode cX9_likes 19 = .ok (.ireturn, 1) := by decide +kernel
theorem dX9_likes_20 : decode cX9_likes 20 = .ok (.aload_n 0, 1) := by decide +kernel
theorem dX9_likes_21 : decode cX9_likes 21 = .ok (.getfield 12, 3) := by decide +kernel
theorem dX9_likes_24 : decode cX9_likes 24 = .ok (.getfield 98, 3) := by decide +kernel
theorem dX9_likes_27 : decode cX9_likes 27 = .ok (.iload_n 1, 1) := by decide +kernel
theorem dX9_likes_28 : decode cX9_likes 28 = .ok (.iload_n 2, 1) := by decide +kernel
theorem dX9_likes_29 : decode cX9_likes 29 = .ok (.invokevirtual 102, 3) := by decide +kernel
theorem dX9_likes_32 : decode cX9_likes 32 = .ok (.istore 4, 2) := by decide +kernel
theorem dX9_likes_34 : decode cX9_likes 34 = .ok (.aload_n 0, 1) := by decide +kernel
theorem dX9_likes_35 : decode cX9_likes 35 = .ok (.getfield 12, 3) := by decide +kernel
theorem dX9_likes_38 : decode cX9_likes 38 = .ok (.getfield 98, 3) := by decide +kernel
theorem dX9_likes_41 : decode cX9_likes 41 = .ok (.iload_n 1, 1) := by decide +kernel
theorem dX9_likes_42 : decode cX9_likes 42 = .ok (.iload_n 2, 1) := by decide +kernel
theorem dX9_likes_43 : decode cX9_likes 43 = .ok (.iload_n 3, 1) := by decide +kernel
theorem dX9_likes_44 : decode cX9_likes 44 = .ok (.invokevirtual 105, 3) := by decide +kernel
theorem dX9_likes_47 : decode cX9_likes 47 = .ok (.iload 4, 2) := by decide +kernel
theorem dX9_likes_49 : decode cX9_likes 49 = .ok (.ireturn, 1) := by decide +kernel
theorem dX9_say_0 : decode cX9_say 0 = .ok (.iload_n 1, 1) := by decide +kernel
theorem dX9_say_1 : decode cX9_say 1 = .ok (.bipush 33, 2) := by decide +kernel
theorem dX9_say_3 : decode cX9_say 3 = .ok (.if_icmp .lt 9, 3) := by decide +kernel
theorem dX9_say_6 : decode cX9_say 6 = .ok (.iload_n 1, 1) := by decide +kernel
theorem dX9_say_7 : decode cX9_say 7 = .ok (.bipush 126, 2) := by decide +kernel
theorem dX9_say_9 : decode cX9_say 9 = .ok (.if_icmp .le 6, 3) := by decide +kernel
theorem dX9_say_12 : decode cX9_say 12 = .ok (.bipush (-2), 2) := by decide +kernel
theorem dX9_say_14 : decode cX9_say 14 = .ok (.ireturn, 1) := by decide +kernel
theorem dX9_say_15 : decode cX9_say 15 = .ok (.aload_n 0, 1) := by decide +kernel
theorem dX9_say_16 : decode cX9_say 16 = .ok (.getfield 32, 3) := by decide +kernel
theorem dX9_say_19 : decode cX9_say 19 = .ok (.iload_n 1, 1) := by decide +kernel
theorem dX9_say_20 : decode cX9_say 20 = .ok (.invokevirtual 108, 3) := by decide +kernel
theorem dX9_say_23 : decode cX9_say 23 = .ok (.ifCond .eq 13, 3) := by decide +kernel
theorem dX9_say_26 : decode cX9_say 26 = .ok (.aload_n 0, 1) := by decide +kernel
theorem dX9_say_27 : decode cX9_say 27 = .ok (.getfield 32, 3) := by decide +kernel
theorem dX9_say_30 : decode cX9_say 30 = .ok (.invokevirtual 111, 3) := by decide +kernel
theorem dX9_say_33 : decode cX9_say 33 = .ok (.goto 5, 3) := by decide +kernel
theorem dX9_say_36 : decode cX9_say 36 = .ok (.bipush (-4), 2) := by decide +kernel
theorem dX9_say_38 : decode cX9_say 38 = .ok (.ireturn, 1) := by decide +kernel
theorem dX9_wipe_0 : decode cX9_wipe 0 = .ok (.aload_n 0, 1) := by decide +kernel
theorem dX9_wipe_1 : decode cX9_wipe 1 = .ok (.getfield 32, 3) := by decide +kernel
theorem dX9_wipe_4 : decode cX9_wipe 4 = .ok (.invokevirtual 111, 3) := by decide +kernel
theorem dX9_wipe_7 : decode cX9_wipe 7 = .ok (.istore_n 1, 1) := by decide +kernel
theorem dX9_wipe_8 : decode cX9_wipe 8 = .ok (.aload_n 0, 1) := by decide +kernel
theorem dX9_wipe_9 : decode cX9_wipe 9 = .ok (.getfield 32, 3) := by decide +kernel
theorem dX9_wipe_12 : decode cX9_wipe 12 = .ok (.invokevirtual 114, 3) := by decide +kernel
theorem dX9_wipe_15 : decode cX9_wipe 15 = .ok (.iload_n 1, 1) := by decide +kernel
theorem dX9_wipe_16 : decode cX9_wipe 16 = .ok (.ireturn, 1) := by decide +kernel
theorem dX9_fault_0 : decode cX9_fault 0 = .ok (.aload_n 0, 1) := by decide +kernel
theorem dX9_fault_1 : decode cX9_fault 1 = .ok (.getfield 32, 3) := by decide +kernel
theorem dX9_fault_4 : decode cX9_fault 4 = .ok (.invokevirtual 117, 3) := by decide +kernel
theorem dX9_fault_7 : decode cX9_fault 7 = .ok (.ireturn, 1) := by decide +kernel
theorem dX9_judge_0 : decode cX9_judge 0 = .ok (.iload_n 1, 1) := by decide +kernel
theorem dX9_judge_1 : decode cX9_judge 1 = .ok (.invokestatic 120, 3) := by decide +kernel
theorem dX9_judge_4 : decode cX9_judge 4 = .ok (.ifCond .ne 6, 3) := by decide +kernel
theorem dX9_judge_7 : decode cX9_judge 7 = .ok (.bipush (-2), 2) := by decide +kernel
theorem dX9_judge_9 : decode cX9_judge 9 = .ok (.ireturn, 1) := by decide +kernel
theorem dX9_judge_10 : decode cX9_judge 10 = .ok (.aload_n 0, 1) := by decide +kernel
theorem dX9_judge_11 : decode cX9_judge 11 = .ok (.getfield 32, 3) := by decide +kernel
theorem dX9_judge_14 : decode cX9_judge 14 = .ok (.invokevirtual 117, 3) := by decide +kernel
theorem dX9_judge_17 : decode cX9_judge 17 = .ok (.bipush (-6), 2) := by decide +kernel
theorem dX9_judge_19 : decode cX9_judge 19 = .ok (.if_icmp .eq 6, 3) := by decide +kernel
theorem dX9_judge_22 : decode cX9_judge 22 = .ok (.bipush (-5), 2) := by decide +kernel
theorem dX9_judge_24 : decode cX9_judge 24 = .ok (.ireturn, 1) := by decide +kernel
theorem dX9_judge_25 : decode cX9_judge 25 = .ok (.aload_n 0, 1) := by decide +kernel
theorem dX9_judge_26 : decode cX9_judge 26 = .ok (.getfield 39, 3) := by decide +kernel
theorem dX9_judge_29 : decode cX9_judge 29 = .ok (.aload_n 0, 1) := by decide +kernel
theorem dX9_judge_30 : decode cX9_judge 30 = .ok (.getfield 32, 3) := by decide +kernel
theorem dX9_judge_33 : decode cX9_judge 33 = .ok (.aload_n 0, 1) := by decide +kernel
theorem dX9_judge_34 : decode cX9_judge 34 = .ok (.getfield 12, 3) := by decide +kernel
theorem dX9_judge_37 : decode cX9_judge 37 = .ok (.getfield 61, 3) := by decide +kernel
theorem dX9_judge_40 : decode cX9_judge 40 = .ok (.aload_n 0, 1) := by decide +kernel
theorem dX9_judge_41 : decode cX9_judge 41 = .ok (.getfield 25, 3) := by decide +kernel
theorem dX9_judge_44 : decode cX9_judge 44 = .ok (.invokevirtual 123, 3) := by decide +kernel
theorem dX9_judge_47 : decode cX9_judge 47 = .ok (.pop, 1) := by decide +kernel
theorem dX9_judge_48 : decode cX9_judge 48 = .ok (.iload_n 1, 1) := by decide +kernel
theorem dX9_judge_49 : decode cX9_judge 49 = .ok (.ifCond .ne 13, 3) := by decide +kernel
theorem dX9_judge_52 : decode cX9_judge 52 = .ok (.aload_n 0, 1) := by decide +kernel
theorem dX9_judge_53 : decode cX9_judge 53 = .ok (.getfield 39, 3) := by decide +kernel
theorem dX9_judge_56 : decode cX9_judge 56 = .ok (.getfield 127, 3) := by decide +kernel
theorem dX9_judge_59 : decode cX9_judge 59 = .ok (.goto 10, 3) := by decide +kernel
theorem dX9_judge_62 : decode cX9_judge 62 = .ok (.aload_n 0, 1) := by decide +kernel
theorem dX9_judge_63 : decode cX9_judge 63 = .ok (.getfield 39, 3) := by decide +kernel
theorem dX9_judge_66 : decode cX9_judge 66 = .ok (.getfield 131, 3) := by decide +kernel
theorem dX9_judge_69 : decode cX9_judge 69 = .ok (.ireturn, 1) := by decide +kernel
theorem dX9_done_0 : decode cX9_done 0 = .ok (.aload_n 0, 1) := by decide +kernel
theorem dX9_done_1 : decode cX9_done 1 = .ok (.getfield 39, 3) := by decide +kernel
theorem dX9_done_4 : decode cX9_done 4 = .ok (.aload_n 0, 1) := by decide +kernel
theorem dX9_done_5 : decode cX9_done 5 = .ok (.getfield 32, 3) := by decide +kernel
theorem dX9_done_8 : decode cX9_done 8 = .ok (.aload_n 0, 1) := by decide +kernel
theorem dX9_done_9 : decode cX9_done 9 = .ok (.getfield 12, 3) := by decide +kernel
theorem dX9_done_12 : decode cX9_done 12 = .ok (.getfield 61, 3) := by decide +kernel
theorem dX9_done_15 : decode cX9_done 15 = .ok (.aload_n 0, 1) := by decide +kernel
theorem dX9_done_16 : decode cX9_done 16 = .ok (.getfield 25, 3) := by decide +kernel
theorem dX9_done_19 : decode cX9_done 19 = .ok (.invokevirtual 123, 3) := by decide +kernel
theorem dX9_done_22 : decode cX9_done 22 = .ok (.ifCond .ne 6, 3) := by decide +kernel
theorem dX9_done_25 : decode cX9_done 25 = .ok (.bipush (-5), 2) := by decide +kernel
theorem dX9_done_27 : decode cX9_done 27 = .ok (.ireturn, 1) := by decide +kernel
theorem dX9_done_28 : decode cX9_done 28 = .ok (.aload_n 0, 1) := by decide +kernel
theorem dX9_done_29 : decode cX9_done 29 = .ok (.getfield 12, 3) := by decide +kernel
theorem dX9_done_32 : decode cX9_done 32 = .ok (.getfield 61, 3) := by decide +kernel
theorem dX9_done_35 : decode cX9_done 35 = .ok (.aload_n 0, 1) := by decide +kernel
theorem dX9_done_36 : decode cX9_done 36 = .ok (.getfield 25, 3) := by decide +kernel
theorem dX9_done_39 : decode cX9_done 39 = .ok (.invokevirtual 134, 3) := by decide +kernel
theorem dX9_done_42 : decode cX9_done 42 = .ok (.aload_n 0, 1) := by decide +kernel
theorem dX9_done_43 : decode cX9_done 43 = .ok (.getfield 32, 3) := by decide +kernel
theorem dX9_done_46 : decode cX9_done 46 = .ok (.invokevirtual 114, 3) := by decide +kernel
theorem dX9_done_49 : decode cX9_done 49 = .ok (.aload_n 0, 1) := by decide +kernel
theorem dX9_done_50 : decode cX9_done 50 = .ok (.getfield 39, 3) := by decide +kernel
theorem dX9_done_53 : decode cX9_done 53 = .ok (.getfield 138, 3) := by decide +kernel
theorem dX9_done_56 : decode cX9_done 56 = .ok (.ireturn, 1) := by decide +kernel
theorem dX9_behind_0 : decode cX9_behind 0 = .ok (.iload_n 1, 1) := by decide +kernel
theorem dX9_behind_1 : decode cX9_behind 1 = .ok (.iload_n 2, 1) := by decide +kernel
theorem dX9_behind_2 : decode cX9_behind 2 = .ok (.invokestatic 57, 3) := by decide +kernel
theorem dX9_behind_5 : decode cX9_behind 5 = .ok (.ifCond .ne 5, 3) := by decide +kernel
theorem dX9_behind_8 : decode cX9_behind 8 = .ok (.iconst (-1), 1) := by decide +kernel
theorem dX9_behind_9 : decode cX9_behind 9 = .ok (.ireturn, 1) := by decide +kernel
theorem dX9_behind_10 : decode cX9_behind 10 = .ok (.aload_n 0, 1) := by decide +kernel
theorem dX9_behind_11 : decode cX9_behind 11 = .ok (.getfield 39, 3) := by decide +kernel
theorem dX9_behind_14 : decode cX9_behind 14 = .ok (.aload_n 0, 1) := by decide +kernel
theorem dX9_behind_15 : decode cX9_behind 15 = .ok (.getfield 32, 3) := by decide +kernel
theorem dX9_behind_18 : decode cX9_behind 18 = .ok (.aload_n 0, 1) := by decide +kernel
theorem dX9_behind_19 : decode cX9_behind 19 = .ok (.getfield 12, 3) := by decide +kernel
theorem dX9_behind_22 : decode cX9_behind 22 = .ok (.getfield 61, 3) := by decide +kernel
theorem dX9_behind_25 : decode cX9_behind 25 = .ok (.aload_n 0, 1) := by decide +kernel
theorem dX9_behind_26 : decode cX9_behind 26 = .ok (.getfield 25, 3) := by decide +kernel
theorem dX9_behind_29 : decode cX9_behind 29 = .ok (.invokevirtual 123, 3) := by decide +kernel
theorem dX9_behind_32 : decode cX9_behind 32 = .ok (.ifCond .eq 15, 3) := by decide +kernel
theorem dX9_behind_35 : decode cX9_behind 35 = .ok (.aload_n 0, 1) := by decide +kernel
theorem dX9_behind_36 : decode cX9_behind 36 = .ok (.getfield 25, 3) := by decide +kernel
theorem dX9_behind_39 : decode cX9_behind 39 = .ok (.iload_n 1, 1) := by decide +kernel
theorem dX9_behind_40 : decode cX9_behind 40 = .ok (.iload_n 2, 1) := by decide +kernel
theorem dX9_behind_41 : decode cX9_behind 41 = .ok (.invokevirtual 141, 3) := by decide +kernel
theorem dX9_behind_44 : decode cX9_behind 44 = .ok (.goto 5, 3) := by decide +kernel
theorem dX9_behind_47 : decode cX9_behind 47 = .ok (.bipush (-5), 2) := by decide +kernel
theorem dX9_behind_49 : decode cX9_behind 49 = .ok (.ireturn, 1) := by decide +kernel
theorem dX9_goes_0 : decode cX9_goes 0 = .ok (.iload_n 1, 1) := by decide +kernel
theorem dX9_goes_1 : decode cX9_goes 1 = .ok (.invokestatic 79, 3) := by decide +kernel
theorem dX9_goes_4 : decode cX9_goes 4 = .ok (.ifCond .ne 5, 3) := by decide +kernel
theorem dX9_goes_7 : decode cX9_goes 7 = .ok (.iconst (-1), 1) := by decide +kernel
theorem dX9_goes_8 : decode cX9_goes 8 = .ok (.ireturn, 1) := by decide +kernel
theorem dX9_goes_9 : decode cX9_goes 9 = .ok (.iload_n 2, 1) := by decide +kernel
theorem dX9_goes_10 : decode cX9_goes 10 = .ok (.invokestatic 120, 3) := by decide +kernel
theorem dX9_goes_13 : decode cX9_goes 13 = .ok (.ifCond .ne 6, 3) := by decide +kernel
theorem dX9_goes_16 : decode cX9_goes 16 = .ok (.bipush (-2), 2) := by decide +kernel
theorem dX9_goes_18 : decode cX9_goes 18 = .ok (.ireturn, 1) := by decide +kernel
theorem dX9_goes_19 : decode cX9_goes 19 = .ok (.aload_n 0, 1) := by decide +kernel
theorem dX9_goes_20 : decode cX9_goes 20 = .ok (.getfield 39, 3) := by decide +kernel
theorem dX9_goes_23 : decode cX9_goes 23 = .ok (.aload_n 0, 1) := by decide +kernel
theorem dX9_goes_24 : decode cX9_goes 24 = .ok (.getfield 32, 3) := by decide +kernel
theorem dX9_goes_27 : decode cX9_goes 27 = .ok (.aload_n 0, 1) := by decide +kernel
theorem dX9_goes_28 : decode cX9_goes 28 = .ok (.getfield 12, 3) := by decide +kernel
theorem dX9_goes_31 : decode cX9_goes 31 = .ok (.getfield 61, 3) := by decide +kernel
theorem dX9_goes_34 : decode cX9_goes 34 = .ok (.aload_n 0, 1) := by decide +kernel
theorem dX9_goes_35 : decode cX9_goes 35 = .ok (.getfield 25, 3) := by decide +kernel
theorem dX9_goes_38 : decode cX9_goes 38 = .ok (.invokevirtual 123, 3) := by decide +kernel
theorem dX9_goes_41 : decode cX9_goes 41 = .ok (.ifCond .ne 6, 3) := by decide +kernel
theorem dX9_goes_44 : decode cX9_goes 44 = .ok (.bipush (-5), 2) := by decide +kernel
theorem dX9_goes_46 : decode cX9_goes 46 = .ok (.ireturn, 1) := by decide +kernel
theorem dX9_goes_47 : decode cX9_goes 47 = .ok (.iload_n 2, 1) := by decide +kernel
theorem dX9_goes_48 : decode cX9_goes 48 = .ok (.ifCond .ne 14, 3) := by decide +kernel
theorem dX9_goes_51 : decode cX9_goes 51 = .ok (.aload_n 0, 1) := by decide +kernel
theorem dX9_goes_52 : decode cX9_goes 52 = .ok (.getfield 25, 3) := by decide +kernel
theorem dX9_goes_55 : decode cX9_goes 55 = .ok (.iload_n 1, 1) := by decide +kernel
theorem dX9_goes_56 : decode cX9_goes 56 = .ok (.invokevirtual 83, 3) := by decide +kernel
theorem dX9_goes_59 : decode cX9_goes 59 = .ok (.goto 11, 3) := by decide +kernel
theorem dX9_goes_62 : decode cX9_goes 62 = .ok (.aload_n 0, 1) := by decide +kernel
theorem dX9_goes_63 : decode cX9_goes 63 = .ok (.getfield 25, 3) := by decide +kernel
theorem dX9_goes_66 : decode cX9_goes 66 = .ok (.iload_n 1, 1) := by decide +kernel
theorem dX9_goes_67 : decode cX9_goes 67 = .ok (.invokevirtual 144, 3) := by decide +kernel
theorem dX9_goes_70 : decode cX9_goes 70 = .ok (.ireturn, 1) := by decide +kernel
theorem dX9_then_0 : decode cX9_then 0 = .ok (.iload_n 1, 1) := by decide +kernel
theorem dX9_then_1 : decode cX9_then 1 = .ok (.ifCond .lt 8, 3) := by decide +kernel
theorem dX9_then_4 : decode cX9_then 4 = .ok (.iload_n 1, 1) := by decide +kernel
theorem dX9_then_5 : decode cX9_then 5 = .ok (.iconst 5, 1) := by decide +kernel
theorem dX9_then_6 : decode cX9_then 6 = .ok (.if_icmp .le 6, 3) := by decide +kernel
theorem dX9_then_9 : decode cX9_then 9 = .ok (.bipush (-2), 2) := by decide +kernel
theorem dX9_then_11 : decode cX9_then 11 = .ok (.ireturn, 1) := by decide +kernel
theorem dX9_then_12 : decode cX9_then 12 = .ok (.aload_n 0, 1) := by decide +kernel
theorem dX9_then_13 : decode cX9_then 13 = .ok (.getfield 39, 3) := by decide +kernel
theorem dX9_then_16 : decode cX9_then 16 = .ok (.aload_n 0, 1) := by decide +kernel
theorem dX9_then_17 : decode cX9_then 17 = .ok (.getfield 32, 3) := by decide +kernel
theorem dX9_then_20 : decode cX9_then 20 = .ok (.aload_n 0, 1) := by decide +kernel
theorem dX9_then_21 : decode cX9_then 21 = .ok (.getfield 12, 3) := by decide +kernel
theorem dX9_then_24 : decode cX9_then 24 = .ok (.getfield 61, 3) := by decide +kernel
theorem dX9_then_27 : decode cX9_then 27 = .ok (.aload_n 0, 1) := by decide +kernel
theorem dX9_then_28 : decode cX9_then 28 = .ok (.getfield 25, 3) := by decide +kernel
theorem dX9_then_31 : decode cX9_then 31 = .ok (.invokevirtual 123, 3) := by decide +kernel
theorem dX9_then_34 : decode cX9_then 34 = .ok (.ifCond .ne 6, 3) := by decide +kernel
theorem dX9_then_37 : decode cX9_then 37 = .ok (.bipush (-5), 2) := by decide +kernel
theorem dX9_then_39 : decode cX9_then 39 = .ok (.ireturn, 1) := by decide +kernel
theorem dX9_then_40 : decode cX9_then 40 = .ok (.iload_n 1, 1) := by decide +kernel
theorem dX9_then_41 : decode cX9_then 41 = .ok (.tableswitch 75 0 4 #[35, 43, 51, 59, 67], 35) := by decide +kernel
theorem dX9_then_76 : decode cX9_then 76 = .ok (.aload_n 0, 1) := by decide +kernel
theorem dX9_then_77 : decode cX9_then 77 = .ok (.getfield 25, 3) := by decide +kernel
theorem dX9_then_80 : decode cX9_then 80 = .ok (.invokevirtual 147, 3) := by decide +kernel
theorem dX9_then_83 : decode cX9_then 83 = .ok (.ireturn, 1) := by decide +kernel
theorem dX9_then_84 : decode cX9_then 84 = .ok (.aload_n 0, 1) := by decide +kernel
theorem dX9_then_85 : decode cX9_then 85 = .ok (.getfield 39, 3) := by decide +kernel
theorem dX9_then_88 : decode cX9_then 88 = .ok (.getfield 150, 3) := by decide +kernel
theorem dX9_then_91 : decode cX9_then 91 = .ok (.ireturn, 1) := by decide +kernel
theorem dX9_then_92 : decode cX9_then 92 = .ok (.aload_n 0, 1) := by decide +kernel
theorem dX9_then_93 : decode cX9_then 93 = .ok (.getfield 25, 3) := by decide +kernel
theorem dX9_then_96 : decode cX9_then 96 = .ok (.invokevirtual 153, 3) := by decide +kernel
theorem dX9_then_99 : decode cX9_then 99 = .ok (.ireturn, 1) := by decide +kernel
theorem dX9_then_100 : decode cX9_then 100 = .ok (.aload_n 0, 1) := by decide +kernel
theorem dX9_then_101 : decode cX9_then 101 = .ok (.getfield 25, 3) := by decide +kernel
theorem dX9_then_104 : decode cX9_then 104 = .ok (.getfield 156, 3) := by decide +kernel
theorem dX9_then_107 : decode cX9_then 107 = .ok (.ireturn, 1) := by decide +kernel
theorem dX9_then_108 : decode cX9_then 108 = .ok (.aload_n 0, 1) := by decide +kernel
theorem dX9_then_109 : decode cX9_then 109 = .ok (.getfield 39, 3) := by decide +kernel
theorem dX9_then_112 : decode cX9_then 112 = .ok (.getfield 159, 3) := by decide +kernel
theorem dX9_then_115 : decode cX9_then 115 = .ok (.ireturn, 1) := by decide +kernel
theorem dX9_then_116 : decode cX9_then 116 = .ok (.aload_n 0, 1) := by decide +kernel
theorem dX9_then_117 : decode cX9_then 117 = .ok (.getfield 39, 3) := by decide +kernel
theorem dX9_then_120 : decode cX9_then 120 = .ok (.getfield 162, 3) := by decide +kernel
theorem dX9_then_123 : decode cX9_then 123 = .ok (.ireturn, 1) := by decide +kernel
theorem dX9_round_0 : decode cX9_round 0 = .ok (.iload_n 1, 1) := by decide +kernel
theorem dX9_round_1 : decode cX9_round 1 = .ok (.invokestatic 79, 3) := by decide +kernel
theorem dX9_round_4 : decode cX9_round 4 = .ok (.ifCond .eq 10, 3) := by decide +kernel
theorem dX9_round_7 : decode cX9_round 7 = .ok (.iload_n 2, 1) := by decide +kernel
theorem dX9_round_8 : decode cX9_round 8 = .ok (.invokestatic 79, 3) := by decide +kernel
theorem dX9_round_11 : decode cX9_round 11 = .ok (.ifCond .ne 5, 3) := by decide +kernel
theorem dX9_round_14 : decode cX9_round 14 = .ok (.iconst (-1), 1) := by decide +kernel
theorem dX9_round_15 : decode cX9_round 15 = .ok (.ireturn, 1) := by decide +kernel
theorem dX9_round_16 : decode cX9_round 16 = .ok (.aload_n 0, 1) := by decide +kernel
theorem dX9_round_17 : decode cX9_round 17 = .ok (.getfield 46, 3) := by decide +kernel
theorem dX9_round_20 : decode cX9_round 20 = .ok (.aload_n 0, 1) := by decide +kernel
theorem dX9_round_21 : decode cX9_round 21 = .ok (.getfield 12, 3) := by decide +kernel
theorem dX9_round_24 : decode cX9_round 24 = .ok (.getfield 61, 3) := by decide +kernel
theorem dX9_round_27 : decode cX9_round 27 = .ok (.invokevirtual 165, 3) := by decide +kernel
theorem dX9_round_30 : decode cX9_round 30 = .ok (.aload_n 0, 1) := by decide +kernel
theorem dX9_round_31 : decode cX9_round 31 = .ok (.getfield 46, 3) := by decide +kernel
theorem dX9_round_34 : decode cX9_round 34 = .ok (.iload_n 1, 1) := by decide +kernel
theorem dX9_round_35 : decode cX9_round 35 = .ok (.iload_n 2, 1) := by decide +kernel
theorem dX9_round_36 : decode cX9_round 36 = .ok (.invokevirtual 168, 3) := by decide +kernel
theorem dX9_round_39 : decode cX9_round 39 = .ok (.ireturn, 1) := by decide +kernel
theorem dX9_mends_0 : decode cX9_mends 0 = .ok (.iload_n 1, 1) := by decide +kernel
theorem dX9_mends_1 : decode cX9_mends 1 = .ok (.invokestatic 79, 3) := by decide +kernel
theorem dX9_mends_4 : decode cX9_mends 4 = .ok (.ifCond .ne 5, 3) := by decide +kernel
theorem dX9_mends_7 : decode cX9_mends 7 = .ok (.iconst (-1), 1) := by decide +kernel
theorem dX9_mends_8 : decode cX9_mends 8 = .ok (.ireturn, 1) := by decide +kernel
theorem dX9_mends_9 : decode cX9_mends 9 = .ok (.aload_n 0, 1) := by decide +kernel
theorem dX9_mends_10 : decode cX9_mends 10 = .ok (.getfield 46, 3) := by decide +kernel
theorem dX9_mends_13 : decode cX9_mends 13 = .ok (.aload_n 0, 1) := by decide +kernel
theorem dX9_mends_14 : decode cX9_mends 14 = .ok (.getfield 12, 3) := by decide +kernel
theorem dX9_mends_17 : decode cX9_mends 17 = .ok (.getfield 61, 3) := by decide +kernel
theorem dX9_mends_20 : decode cX9_mends 20 = .ok (.invokevirtual 165, 3) := by decide +kernel
theorem dX9_mends_23 : decode cX9_mends 23 = .ok (.aload_n 0, 1) := by decide +kernel
theorem dX9_mends_24 : decode cX9_mends 24 = .ok (.getfield 46, 3) := by decide +kernel
theorem dX9_mends_27 : decode cX9_mends 27 = .ok (.iload_n 1, 1) := by decide +kernel
theorem dX9_mends_28 : decode cX9_mends 28 = .ok (.aload_n 0, 1) := by decide +kernel
theorem dX9_mends_29 : decode cX9_mends 29 = .ok (.getfield 12, 3) := by decide +kernel
theorem dX9_mends_32 : decode cX9_mends 32 = .ok (.getfield 61, 3) := by decide +kernel
theorem dX9_mends_35 : decode cX9_mends 35 = .ok (.iload_n 1, 1) := by decide +kernel
theorem dX9_mends_36 : decode cX9_mends 36 = .ok (.invokevirtual 171, 3) := by decide +kernel
theorem dX9_mends_39 : decode cX9_mends 39 = .ok (.invokevirtual 174, 3) := by decide +kernel
theorem dX9_mends_42 : decode cX9_mends 42 = .ok (.ireturn, 1) := by decide +kernel
theorem dX9_steady_0 : decode cX9_steady 0 = .ok (.aload_n 0, 1) := by decide +kernel
theorem dX9_steady_1 : decode cX9_steady 1 = .ok (.getfield 12, 3) := by decide +kernel
theorem dX9_steady_4 : decode cX9_steady 4 = .ok (.getfield 98, 3) := by decide +kernel
theorem dX9_steady_7 : decode cX9_steady 7 = .ok (.invokevirtual 177, 3) := by decide +kernel
theorem dX9_steady_10 : decode cX9_steady 10 = .ok (.ireturn, 1) := by decide +kernel
theorem dX9_wed_0 : decode cX9_wed 0 = .ok (.iload_n 1, 1) := by decide +kernel
theorem dX9_wed_1 : decode cX9_wed 1 = .ok (.iload_n 2, 1) := by decide +kernel
theorem dX9_wed_2 : decode cX9_wed 2 = .ok (.invokestatic 90, 3) := by decide +kernel
theorem dX9_wed_5 : decode cX9_wed 5 = .ok (.ifCond .ne 5, 3) := by decide +kernel
theorem dX9_wed_8 : decode cX9_wed 8 = .ok (.iconst (-1), 1) := by decide +kernel
theorem dX9_wed_9 : decode cX9_wed 9 = .ok (.ireturn, 1) := by decide +kernel
theorem dX9_wed_10 : decode cX9_wed 10 = .ok (.iload_n 3, 1) := by decide +kernel
theorem dX9_wed_11 : decode cX9_wed 11 = .ok (.invokestatic 120, 3) := by decide +kernel
theorem dX9_wed_14 : decode cX9_wed 14 = .ok (.ifCond .ne 6, 3) := by decide +kernel
theorem dX9_wed_17 : decode cX9_wed 17 = .ok (.bipush (-2), 2) := by decide +kernel
theorem dX9_wed_19 : decode cX9_wed 19 = .ok (.ireturn, 1) := by decide +kernel
theorem dX9_wed_20 : decode cX9_wed 20 = .ok (.aload_n 0, 1) := by decide +kernel
theorem dX9_wed_21 : decode cX9_wed 21 = .ok (.getfield 12, 3) := by decide +kernel
theorem dX9_wed_24 : decode cX9_wed 24 = .ok (.getfield 98, 3) := by decide +kernel
theorem dX9_wed_27 : decode cX9_wed 27 = .ok (.iload_n 3, 1) := by decide +kernel
theorem dX9_wed_28 : decode cX9_wed 28 = .ok (.invokevirtual 180, 3) := by decide +kernel
theorem dX9_wed_31 : decode cX9_wed 31 = .ok (.iload_n 1, 1) := by decide +kernel
theorem dX9_wed_32 : decode cX9_wed 32 = .ok (.iload_n 2, 1) := by decide +kernel
theorem dX9_wed_33 : decode cX9_wed 33 = .ok (.invokestatic 183, 3) := by decide +kernel
theorem dX9_wed_36 : decode cX9_wed 36 = .ok (.ireturn, 1) := by decide +kernel
theorem dX9_seen_0 : decode cX9_seen 0 = .ok (.iload_n 1, 1) := by decide +kernel
theorem dX9_seen_1 : decode cX9_seen 1 = .ok (.ifCond .lt 18, 3) := by decide +kernel
theorem dX9_seen_4 : decode cX9_seen 4 = .ok (.iload_n 1, 1) := by decide +kernel
theorem dX9_seen_5 : decode cX9_seen 5 = .ok (.iconst 5, 1) := by decide +kernel
theorem dX9_seen_6 : decode cX9_seen 6 = .ok (.if_icmp .gt 13, 3) := by decide +kernel
theorem dX9_seen_9 : decode cX9_seen 9 = .ok (.iload_n 2, 1) := by decide +kernel
theorem dX9_seen_10 : decode cX9_seen 10 = .ok (.ifCond .lt 9, 3) := by decide +kernel
theorem dX9_seen_13 : decode cX9_seen 13 = .ok (.iload_n 2, 1) := by decide +kernel
theorem dX9_seen_14 : decode cX9_seen 14 = .ok (.bipush 100, 2) := by decide +kernel
theorem dX9_seen_16 : decode cX9_seen 16 = .ok (.if_icmp .lt 6, 3) := by decide +kernel
theorem dX9_seen_19 : decode cX9_seen 19 = .ok (.bipush (-2), 2) := by decide +kernel
theorem dX9_seen_21 : decode cX9_seen 21 = .ok (.ireturn, 1) := by decide +kernel
theorem dX9_seen_22 : decode cX9_seen 22 = .ok (.aload_n 0, 1) := by decide +kernel
theorem dX9_seen_23 : decode cX9_seen 23 = .ok (.getfield 12, 3) := by decide +kernel
theorem dX9_seen_26 : decode cX9_seen 26 = .ok (.getfield 187, 3) := by decide +kernel
theorem dX9_seen_29 : decode cX9_seen 29 = .ok (.iload_n 1, 1) := by decide +kernel
theorem dX9_seen_30 : decode cX9_seen 30 = .ok (.iload_n 2, 1) := by decide +kernel
theorem dX9_seen_31 : decode cX9_seen 31 = .ok (.iload_n 3, 1) := by decide +kernel
theorem dX9_seen_32 : decode cX9_seen 32 = .ok (.invokevirtual 191, 3) := by decide +kernel
theorem dX9_seen_35 : decode cX9_seen 35 = .ok (.ifCond .eq 16, 3) := by decide +kernel
theorem dX9_seen_38 : decode cX9_seen 38 = .ok (.aload_n 0, 1) := by decide +kernel
theorem dX9_seen_39 : decode cX9_seen 39 = .ok (.getfield 12, 3) := by decide +kernel
theorem dX9_seen_42 : decode cX9_seen 42 = .ok (.getfield 187, 3) := by decide +kernel
theorem dX9_seen_45 : decode cX9_seen 45 = .ok (.getfield 196, 3) := by decide +kernel
theorem dX9_seen_48 : decode cX9_seen 48 = .ok (.goto 5, 3) := by decide +kernel
theorem dX9_seen_51 : decode cX9_seen 51 = .ok (.bipush (-4), 2) := by decide +kernel
theorem dX9_seen_53 : decode cX9_seen 53 = .ok (.ireturn, 1) := by decide +kernel
theorem dX9_forget_0 : decode cX9_forget 0 = .ok (.aload_n 0, 1) := by decide +kernel
theorem dX9_forget_1 : decode cX9_forget 1 = .ok (.getfield 12, 3) := by decide +kernel
theorem dX9_forget_4 : decode cX9_forget 4 = .ok (.getfield 187, 3) := by decide +kernel
theorem dX9_forget_7 : decode cX9_forget 7 = .ok (.getfield 196, 3) := by decide +kernel
theorem dX9_forget_10 : decode cX9_forget 10 = .ok (.istore_n 1, 1) := by decide +kernel
theorem dX9_forget_11 : decode cX9_forget 11 = .ok (.aload_n 0, 1) := by decide +kernel
theorem dX9_forget_12 : decode cX9_forget 12 = .ok (.getfield 12, 3) := by decide +kernel
theorem dX9_forget_15 : decode cX9_forget 15 = .ok (.getfield 187, 3) := by decide +kernel
theorem dX9_forget_18 : decode cX9_forget 18 = .ok (.invokevirtual 199, 3) := by decide +kernel
theorem dX9_forget_21 : decode cX9_forget 21 = .ok (.iload_n 1, 1) := by decide +kernel
theorem dX9_forget_22 : decode cX9_forget 22 = .ok (.ireturn, 1) := by decide +kernel
theorem dX9_posts_0 : decode cX9_posts 0 = .ok (.iload_n 1, 1) := by decide +kernel
theorem dX9_posts_1 : decode cX9_posts 1 = .ok (.iconst (-1), 1) := by decide +kernel
theorem dX9_posts_2 : decode cX9_posts 2 = .ok (.if_icmp .ne 16, 3) := by decide +kernel
theorem dX9_posts_5 : decode cX9_posts 5 = .ok (.aload_n 0, 1) := by decide +kernel
theorem dX9_posts_6 : decode cX9_posts 6 = .ok (.getfield 12, 3) := by decide +kernel
theorem dX9_posts_9 : decode cX9_posts 9 = .ok (.getfield 187, 3) := by decide +kernel
theorem dX9_posts_12 : decode cX9_posts 12 = .ok (.getfield 200, 3) := by decide +kernel
theorem dX9_posts_15 : decode cX9_posts 15 = .ok (.goto 14, 3) := by decide +kernel
theorem dX9_posts_18 : decode cX9_posts 18 = .ok (.aload_n 0, 1) := by decide +kernel
theorem dX9_posts_19 : decode cX9_posts 19 = .ok (.getfield 12, 3) := by decide +kernel
theorem dX9_posts_22 : decode cX9_posts 22 = .ok (.getfield 187, 3) := by decide +kernel
theorem dX9_posts_25 : decode cX9_posts 25 = .ok (.iload_n 1, 1) := by decide +kernel
theorem dX9_posts_26 : decode cX9_posts 26 = .ok (.invokevirtual 203, 3) := by decide +kernel
theorem dX9_posts_29 : decode cX9_posts 29 = .ok (.ireturn, 1) := by decide +kernel
theorem dX9_ask_0 : decode cX9_ask 0 = .ok (.iload_n 1, 1) := by decide +kernel
theorem dX9_ask_1 : decode cX9_ask 1 = .ok (.invokestatic 120, 3) := by decide +kernel
theorem dX9_ask_4 : decode cX9_ask 4 = .ok (.ifCond .ne 6, 3) := by decide +kernel
theorem dX9_ask_7 : decode cX9_ask 7 = .ok (.bipush (-2), 2) := by decide +kernel
theorem dX9_ask_9 : decode cX9_ask 9 = .ok (.ireturn, 1) := by decide +kernel
theorem dX9_ask_10 : decode cX9_ask 10 = .ok (.aload_n 0, 1) := by decide +kernel
theorem dX9_ask_11 : decode cX9_ask 11 = .ok (.getfield 12, 3) := by decide +kernel
theorem dX9_ask_14 : decode cX9_ask 14 = .ok (.getfield 187, 3) := by decide +kernel
theorem dX9_ask_17 : decode cX9_ask 17 = .ok (.invokevirtual 206, 3) := by decide +kernel
theorem dX9_ask_20 : decode cX9_ask 20 = .ok (.istore_n 2, 1) := by decide +kernel
theorem dX9_ask_21 : decode cX9_ask 21 = .ok (.iload_n 2, 1) := by decide +kernel
theorem dX9_ask_22 : decode cX9_ask 22 = .ok (.bipush (-6), 2) := by decide +kernel
theorem dX9_ask_24 : decode cX9_ask 24 = .ok (.if_icmp .eq 7, 3) := by decide +kernel
theorem dX9_ask_27 : decode cX9_ask 27 = .ok (.iload_n 1, 1) := by decide +kernel
theorem dX9_ask_28 : decode cX9_ask 28 = .ok (.ifCond .ne 5, 3) := by decide +kernel
theorem dX9_ask_31 : decode cX9_ask 31 = .ok (.iload_n 2, 1) := by decide +kernel
theorem dX9_ask_32 : decode cX9_ask 32 = .ok (.ireturn, 1) := by decide +kernel
theorem dX9_ask_33 : decode cX9_ask 33 = .ok (.aload_n 0, 1) := by decide +kernel
theorem dX9_ask_34 : decode cX9_ask 34 = .ok (.getfield 12, 3) := by decide +kernel
theorem dX9_ask_37 : decode cX9_ask 37 = .ok (.getfield 187, 3) := by decide +kernel
theorem dX9_ask_40 : decode cX9_ask 40 = .ok (.iload_n 2, 1) := by decide +kernel
theorem dX9_ask_41 : decode cX9_ask 41 = .ok (.invokevirtual 209, 3) := by decide +kernel
theorem dX9_ask_44 : decode cX9_ask 44 = .ok (.ireturn, 1) := by decide +kernel
theorem dX9_heaps_0 : decode cX9_heaps 0 = .ok (.iload_n 1, 1) := by decide +kernel
theorem dX9_heaps_1 : decode cX9_heaps 1 = .ok (.ifCond .lt 16, 3) := by decide +kernel
theorem dX9_heaps_4 : decode cX9_heaps 4 = .ok (.iload_n 1, 1) := by decide +kernel
theorem dX9_heaps_5 : decode cX9_heaps 5 = .ok (.bipush 60, 2) := by decide +kernel
theorem dX9_heaps_7 : decode cX9_heaps 7 = .ok (.if_icmp .gt 10, 3) := by decide +kernel
theorem dX9_heaps_10 : decode cX9_heaps 10 = .ok (.iload_n 2, 1) := by decide +kernel
theorem dX9_heaps_11 : decode cX9_heaps 11 = .ok (.invokestatic 120, 3) := by decide +kernel
theorem dX9_heaps_14 : decode cX9_heaps 14 = .ok (.ifCond .ne 6, 3) := by decide +kernel
theorem dX9_heaps_17 : decode cX9_heaps 17 = .ok (.bipush (-2), 2) := by decide +kernel
theorem dX9_heaps_19 : decode cX9_heaps 19 = .ok (.ireturn, 1) := by decide +kernel
theorem dX9_heaps_20 : decode cX9_heaps 20 = .ok (.aload_n 0, 1) := by decide +kernel
theorem dX9_heaps_21 : decode cX9_heaps 21 = .ok (.getfield 53, 3) := by decide +kernel
theorem dX9_heaps_24 : decode cX9_heaps 24 = .ok (.iload_n 1, 1) := by decide +kernel
theorem dX9_heaps_25 : decode cX9_heaps 25 = .ok (.invokevirtual 212, 3) := by decide +kernel
theorem dX9_heaps_28 : decode cX9_heaps 28 = .ok (.istore_n 3, 1) := by decide +kernel
theorem dX9_heaps_29 : decode cX9_heaps 29 = .ok (.iload_n 2, 1) := by decide +kernel
theorem dX9_heaps_30 : decode cX9_heaps 30 = .ok (.iconst 1, 1) := by decide +kernel
theorem dX9_heaps_31 : decode cX9_heaps 31 = .ok (.if_icmp .ne 5, 3) := by decide +kernel
theorem dX9_heaps_34 : decode cX9_heaps 34 = .ok (.iload_n 3, 1) := by decide +kernel
theorem dX9_heaps_35 : decode cX9_heaps 35 = .ok (.ireturn, 1) := by decide +kernel
theorem dX9_heaps_36 : decode cX9_heaps 36 = .ok (.iload_n 3, 1) := by decide +kernel
theorem dX9_heaps_37 : decode cX9_heaps 37 = .ok (.bipush (-6), 2) := by decide +kernel
theorem dX9_heaps_39 : decode cX9_heaps 39 = .ok (.if_icmp .ne 7, 3) := by decide +kernel
theorem dX9_heaps_42 : decode cX9_heaps 42 = .ok (.iconst 0, 1) := by decide +kernel
theorem dX9_heaps_43 : decode cX9_heaps 43 = .ok (.goto 4, 3) := by decide +kernel
theorem dX9_heaps_46 : decode cX9_heaps 46 = .ok (.iconst 1, 1) := by decide +kernel
theorem dX9_heaps_47 : decode cX9_heaps 47 = .ok (.ireturn, 1) := by decide +kernel
theorem dX9_gust_0 : decode cX9_gust 0 = .ok (.iload_n 1, 1) := by decide +kernel
theorem dX9_gust_1 : decode cX9_gust 1 = .ok (.iconst 1, 1) := by decide +kernel
theorem dX9_gust_2 : decode cX9_gust 2 = .ok (.if_icmp .lt 34, 3) := by decide +kernel
theorem dX9_gust_5 : decode cX9_gust 5 = .ok (.iload_n 1, 1) := by decide +kernel
theorem dX9_gust_6 : decode cX9_gust 6 = .ok (.bipush 12, 2) := by decide +kernel
theorem dX9_gust_8 : decode cX9_gust 8 = .ok (.if_icmp .gt 28, 3) := by decide +kernel
theorem dX9_gust_11 : decode cX9_gust 11 = .ok (.iload_n 2, 1) := by decide +kernel
theorem dX9_gust_12 : decode cX9_gust 12 = .ok (.iconst 1, 1) := by decide +kernel
theorem dX9_gust_13 : decode cX9_gust 13 = .ok (.if_icmp .lt 23, 3) := by decide +kernel
theorem dX9_gust_16 : decode cX9_gust 16 = .ok (.iload_n 2, 1) := by decide +kernel
theorem dX9_gust_17 : decode cX9_gust 17 = .ok (.bipush 9, 2) := by decide +kernel
theorem dX9_gust_19 : decode cX9_gust 19 = .ok (.if_icmp .gt 17, 3) := by decide +kernel
theorem dX9_gust_22 : decode cX9_gust 22 = .ok (.iload_n 3, 1) := by decide +kernel
theorem dX9_gust_23 : decode cX9_gust 23 = .ok (.iconst 1, 1) := by decide +kernel
theorem dX9_gust_24 : decode cX9_gust 24 = .ok (.if_icmp .lt 12, 3) := by decide +kernel
theorem dX9_gust_27 : decode cX9_gust 27 = .ok (.iload_n 3, 1) := by decide +kernel
theorem dX9_gust_28 : decode cX9_gust 28 = .ok (.iload_n 2, 1) := by decide +kernel
theorem dX9_gust_29 : decode cX9_gust 29 = .ok (.if_icmp .gt 7, 3) := by decide +kernel
theorem dX9_gust_32 : decode cX9_gust 32 = .ok (.iconst 1, 1) := by decide +kernel
theorem dX9_gust_33 : decode cX9_gust 33 = .ok (.goto 4, 3) := by decide +kernel
theorem dX9_gust_36 : decode cX9_gust 36 = .ok (.iconst 0, 1) := by decide +kernel
theorem dX9_gust_37 : decode cX9_gust 37 = .ok (.istore 6, 2) := by decide +kernel
theorem dX9_gust_39 : decode cX9_gust 39 = .ok (.iload 6, 2) := by decide +kernel
theorem dX9_gust_41 : decode cX9_gust 41 = .ok (.ifCond .eq 19, 3) := by decide +kernel
theorem dX9_gust_44 : decode cX9_gust 44 = .ok (.iload 4, 2) := by decide +kernel
theorem dX9_gust_46 : decode cX9_gust 46 = .ok (.invokestatic 120, 3) := by decide +kernel
theorem dX9_gust_49 : decode cX9_gust 49 = .ok (.ifCond .eq 11, 3) := by decide +kernel
theorem dX9_gust_52 : decode cX9_gust 52 = .ok (.iload 5, 2) := by decide +kernel
theorem dX9_gust_54 : decode cX9_gust 54 = .ok (.invokestatic 120, 3) := by decide +kernel
theorem dX9_gust_57 : decode cX9_gust 57 = .ok (.ifCond .ne 7, 3) := by decide +kernel
theorem dX9_gust_60 : decode cX9_gust 60 = .ok (.ldc2_w 215, 3) := by decide +kernel
theorem dX9_gust_63 : decode cX9_gust 63 = .ok (.lreturn, 1) := by decide +kernel
theorem dX9_gust_64 : decode cX9_gust 64 = .ok (.iload 4, 2) := by decide +kernel
theorem dX9_gust_66 : decode cX9_gust 66 = .ok (.ifCond .ne 11, 3) := by decide +kernel
theorem dX9_gust_69 : decode cX9_gust 69 = .ok (.iload_n 1, 1) := by decide +kernel
theorem dX9_gust_70 : decode cX9_gust 70 = .ok (.iload_n 3, 1) := by decide +kernel
theorem dX9_gust_71 : decode cX9_gust 71 = .ok (.invokestatic 217, 3) := by decide +kernel
theorem dX9_gust_74 : decode cX9_gust 74 = .ok (.goto 8, 3) := by decide +kernel
theorem dX9_gust_77 : decode cX9_gust 77 = .ok (.iload_n 1, 1) := by decide +kernel
theorem dX9_gust_78 : decode cX9_gust 78 = .ok (.iload_n 2, 1) := by decide +kernel
theorem dX9_gust_79 : decode cX9_gust 79 = .ok (.invokestatic 223, 3) := by decide +kernel
theorem dX9_gust_82 : decode cX9_gust 82 = .ok (.lstore 7, 2) := by decide +kernel
theorem dX9_gust_84 : decode cX9_gust 84 = .ok (.lload 7, 2) := by decide +kernel
theorem dX9_gust_86 : decode cX9_gust 86 = .ok (.iload_n 2, 1) := by decide +kernel
theorem dX9_gust_87 : decode cX9_gust 87 = .ok (.iload_n 1, 1) := by decide +kernel
theorem dX9_gust_88 : decode cX9_gust 88 = .ok (.invokestatic 226, 3) := by decide +kernel
theorem dX9_gust_91 : decode cX9_gust 91 = .ok (.iload 5, 2) := by decide +kernel
theorem dX9_gust_93 : decode cX9_gust 93 = .ok (.invokestatic 229, 3) := by decide +kernel
theorem dX9_gust_96 : decode cX9_gust 96 = .ok (.lreturn, 1) := by decide +kernel
theorem dX9_year_0 : decode cX9_year 0 = .ok (.iload_n 1, 1) := by decide +kernel
theorem dX9_year_1 : decode cX9_year 1 = .ok (.ifCond .lt 25, 3) := by decide +kernel
theorem dX9_year_4 : decode cX9_year 4 = .ok (.iload_n 1, 1) := by decide +kernel
theorem dX9_year_5 : decode cX9_year 5 = .ok (.sipush 9999, 3) := by decide +kernel
theorem dX9_year_8 : decode cX9_year 8 = .ok (.if_icmp .gt 18, 3) := by decide +kernel
theorem dX9_year_11 : decode cX9_year 11 = .ok (.iload_n 2, 1) := by decide +kernel
theorem dX9_year_12 : decode cX9_year 12 = .ok (.iconst 1, 1) := by decide +kernel
theorem dX9_year_13 : decode cX9_year 13 = .ok (.if_icmp .lt 13, 3) := by decide +kernel
theorem dX9_year_16 : decode cX9_year 16 = .ok (.iload_n 2, 1) := by decide +kernel
theorem dX9_year_17 : decode cX9_year 17 = .ok (.bipush 99, 2) := by decide +kernel
theorem dX9_year_19 : decode cX9_year 19 = .ok (.if_icmp .gt 7, 3) := by decide +kernel
theorem dX9_year_22 : decode cX9_year 22 = .ok (.iconst 1, 1) := by decide +kernel
theorem dX9_year_23 : decode cX9_year 23 = .ok (.goto 4, 3) := by decide +kernel
theorem dX9_year_26 : decode cX9_year 26 = .ok (.iconst 0, 1) := by decide +kernel
theorem dX9_year_27 : decode cX9_year 27 = .ok (.istore 4, 2) := by decide +kernel
theorem dX9_year_29 : decode cX9_year 29 = .ok (.iload 4, 2) := by decide +kernel
theorem dX9_year_31 : decode cX9_year 31 = .ok (.ifCond .eq 12, 3) := by decide +kernel
theorem dX9_year_34 : decode cX9_year 34 = .ok (.iload_n 3, 1) := by decide +kernel
theorem dX9_year_35 : decode cX9_year 35 = .ok (.ifCond .lt 8, 3) := by decide +kernel
theorem dX9_year_38 : decode cX9_year 38 = .ok (.iload_n 3, 1) := by decide +kernel
theorem dX9_year_39 : decode cX9_year 39 = .ok (.iconst 2, 1) := by decide +kernel
theorem dX9_year_40 : decode cX9_year 40 = .ok (.if_icmp .le 6, 3) := by decide +kernel
theorem dX9_year_43 : decode cX9_year 43 = .ok (.bipush (-2), 2) := by decide +kernel
theorem dX9_year_45 : decode cX9_year 45 = .ok (.ireturn, 1) := by decide +kernel
theorem dX9_year_46 : decode cX9_year 46 = .ok (.aload_n 0, 1) := by decide +kernel
theorem dX9_year_47 : decode cX9_year 47 = .ok (.getfield 25, 3) := by decide +kernel
theorem dX9_year_50 : decode cX9_year 50 = .ok (.aload_n 0, 1) := by decide +kernel
theorem dX9_year_51 : decode cX9_year 51 = .ok (.getfield 12, 3) := by decide +kernel
theorem dX9_year_54 : decode cX9_year 54 = .ok (.getfield 61, 3) := by decide +kernel
theorem dX9_year_57 : decode cX9_year 57 = .ok (.invokevirtual 134, 3) := by decide +kernel
theorem dX9_year_60 : decode cX9_year 60 = .ok (.aload_n 0, 1) := by decide +kernel
theorem dX9_year_61 : decode cX9_year 61 = .ok (.getfield 25, 3) := by decide +kernel
theorem dX9_year_64 : decode cX9_year 64 = .ok (.iload_n 1, 1) := by decide +kernel
theorem dX9_year_65 : decode cX9_year 65 = .ok (.iload_n 2, 1) := by decide +kernel
theorem dX9_year_66 : decode cX9_year 66 = .ok (.invokevirtual 233, 3) := by decide +kernel
theorem dX9_year_69 : decode cX9_year 69 = .ok (.iload_n 3, 1) := by decide +kernel
theorem dX9_year_70 : decode cX9_year 70 = .ok (.lookupswitch 45 #[(0, 26), (1, 34)], 26) := by decide +kernel
theorem dX9_year_96 : decode cX9_year 96 = .ok (.aload_n 0, 1) := by decide +kernel
theorem dX9_year_97 : decode cX9_year 97 = .ok (.getfield 25, 3) := by decide +kernel
theorem dX9_year_100 : decode cX9_year 100 = .ok (.invokevirtual 147, 3) := by decide +kernel
theorem dX9_year_103 : decode cX9_year 103 = .ok (.ireturn, 1) := by decide +kernel
theorem dX9_year_104 : decode cX9_year 104 = .ok (.aload_n 0, 1) := by decide +kernel
theorem dX9_year_105 : decode cX9_year 105 = .ok (.getfield 25, 3) := by decide +kernel
theorem dX9_year_108 : decode cX9_year 108 = .ok (.invokevirtual 153, 3) := by decide +kernel
theorem dX9_year_111 : decode cX9_year 111 = .ok (.invokestatic 237, 3) := by decide +kernel
theorem dX9_year_114 : decode cX9_year 114 = .ok (.ireturn, 1) := by decide +kernel
theorem dX9_year_115 : decode cX9_year 115 = .ok (.aload_n 0, 1) := by decide +kernel
theorem dX9_year_116 : decode cX9_year 116 = .ok (.getfield 25, 3) := by decide +kernel
theorem dX9_year_119 : decode cX9_year 119 = .ok (.iconst 0, 1) := by decide +kernel
theorem dX9_year_120 : decode cX9_year 120 = .ok (.invokevirtual 144, 3) := by decide +kernel
theorem dX9_year_123 : decode cX9_year 123 = .ok (.ireturn, 1) := by decide +kernel
theorem dX9_image_0 : decode cX9_image 0 = .ok (.iload_n 1, 1) := by decide +kernel
theorem dX9_image_1 : decode cX9_image 1 = .ok (.invokestatic 120, 3) := by decide +kernel
theorem dX9_image_4 : decode cX9_image 4 = .ok (.ifCond .ne 6, 3) := by decide +kernel
theorem dX9_image_7 : decode cX9_image 7 = .ok (.bipush (-2), 2) := by decide +kernel
theorem dX9_image_9 : decode cX9_image 9 = .ok (.ireturn, 1) := by decide +kernel
theorem dX9_image_10 : decode cX9_image 10 = .ok (.iload_n 1, 1) := by decide +kernel
theorem dX9_image_11 : decode cX9_image 11 = .ok (.ifCond .ne 10, 3) := by decide +kernel
theorem dX9_image_14 : decode cX9_image 14 = .ok (.aload_n 0, 1) := by decide +kernel
theorem dX9_image_15 : decode cX9_image 15 = .ok (.getfield 16, 3) := by decide +kernel
theorem dX9_image_18 : decode cX9_image 18 = .ok (.goto 7, 3) := by decide +kernel
theorem dX9_image_21 : decode cX9_image 21 = .ok (.aload_n 0, 1) := by decide +kernel
theorem dX9_image_22 : decode cX9_image 22 = .ok (.getfield 19, 3) := by decide +kernel
theorem dX9_image_25 : decode cX9_image 25 = .ok (.astore_n 2, 1) := by decide +kernel
theorem dX9_image_26 : decode cX9_image 26 = .ok (.aload_n 2, 1) := by decide +kernel
theorem dX9_image_27 : decode cX9_image 27 = .ok (.aload_n 0, 1) := by decide +kernel
theorem dX9_image_28 : decode cX9_image 28 = .ok (.getfield 12, 3) := by decide +kernel
theorem dX9_image_31 : decode cX9_image 31 = .ok (.invokevirtual 242, 3) := by decide +kernel
theorem dX9_image_34 : decode cX9_image 34 = .ok (.aload_n 2, 1) := by decide +kernel
theorem dX9_image_35 : decode cX9_image 35 = .ok (.iconst 1, 1) := by decide +kernel
theorem dX9_image_36 : decode cX9_image 36 = .ok (.putfield 245, 3) := by decide +kernel
theorem dX9_image_39 : decode cX9_image 39 = .ok (.iconst 1, 1) := by decide +kernel
theorem dX9_image_40 : decode cX9_image 40 = .ok (.ireturn, 1) := by decide +kernel
theorem dX9_restore_0 : decode cX9_restore 0 = .ok (.iload_n 1, 1) := by decide +kernel
theorem dX9_restore_1 : decode cX9_restore 1 = .ok (.invokestatic 120, 3) := by decide +kernel
theorem dX9_restore_4 : decode cX9_restore 4 = .ok (.ifCond .ne 6, 3) := by decide +kernel
theorem dX9_restore_7 : decode cX9_restore 7 = .ok (.bipush (-2), 2) := by decide +kernel
theorem dX9_restore_9 : decode cX9_restore 9 = .ok (.ireturn, 1) := by decide +kernel
theorem dX9_restore_10 : decode cX9_restore 10 = .ok (.iload_n 1, 1) := by decide +kernel
theorem dX9_restore_11 : decode cX9_restore 11 = .ok (.ifCond .ne 10, 3) := by decide +kernel
theorem dX9_restore_14 : decode cX9_restore 14 = .ok (.aload_n 0, 1) := by decide +kernel
theorem dX9_restore_15 : decode cX9_restore 15 = .ok (.getfield 16, 3) := by decide +kernel
theorem dX9_restore_18 : decode cX9_restore 18 = .ok (.goto 7, 3) := by decide +kernel
theorem dX9_restore_21 : decode cX9_restore 21 = .ok (.aload_n 0, 1) := by decide +kernel
theorem dX9_restore_22 : decode cX9_restore 22 = .ok (.getfield 19, 3) := by decide +kernel
theorem dX9_restore_25 : decode cX9_restore 25 = .ok (.astore_n 2, 1) := by decide +kernel
theorem dX9_restore_26 : decode cX9_restore 26 = .ok (.aload_n 2, 1) := by decide +kernel
theorem dX9_restore_27 : decode cX9_restore 27 = .ok (.getfield 245, 3) := by decide +kernel
theorem dX9_restore_30 : decode cX9_restore 30 = .ok (.ifCond .ne 6, 3) := by decide +kernel
theorem dX9_restore_33 : decode cX9_restore 33 = .ok (.bipush (-3), 2) := by decide +kernel
theorem dX9_restore_35 : decode cX9_restore 35 = .ok (.ireturn, 1) := by decide +kernel
theorem dX9_restore_36 : decode cX9_restore 36 = .ok (.aload_n 0, 1) := by decide +kernel
theorem dX9_restore_37 : decode cX9_restore 37 = .ok (.getfield 12, 3) := by decide +kernel
theorem dX9_restore_40 : decode cX9_restore 40 = .ok (.aload_n 2, 1) := by decide +kernel
theorem dX9_restore_41 : decode cX9_restore 41 = .ok (.invokevirtual 242, 3) := by decide +kernel
theorem dX9_restore_44 : decode cX9_restore 44 = .ok (.iconst 1, 1) := by decide +kernel
theorem dX9_restore_45 : decode cX9_restore 45 = .ok (.ireturn, 1) := by decide +kernel
theorem dX9_told_0 : decode cX9_told 0 = .ok (.iload_n 1, 1) := by decide +kernel
theorem dX9_told_1 : decode cX9_told 1 = .ok (.ifCond .ge 6, 3) := by decide +kernel
theorem dX9_told_4 : decode cX9_told 4 = .ok (.bipush (-2), 2) := by decide +kernel
theorem dX9_told_6 : decode cX9_told 6 = .ok (.ireturn, 1) := by decide +kernel
theorem dX9_told_7 : decode cX9_told 7 = .ok (.iload_n 1, 1) := by decide +kernel
theorem dX9_told_8 : decode cX9_told 8 = .ok (.bipush 10, 2) := by decide +kernel
theorem dX9_told_10 : decode cX9_told 10 = .ok (.if_icmp .ge 9, 3) := by decide +kernel
theorem dX9_told_13 : decode cX9_told 13 = .ok (.aload_n 0, 1) := by decide +kernel
theorem dX9_told_14 : decode cX9_told 14 = .ok (.iload_n 1, 1) := by decide +kernel
theorem dX9_told_15 : decode cX9_told 15 = .ok (.invokevirtual 249, 3) := by decide +kernel
theorem dX9_told_18 : decode cX9_told 18 = .ok (.ireturn, 1) := by decide +kernel
theorem dX9_told_19 : decode cX9_told 19 = .ok (.iload_n 1, 1) := by decide +kernel
theorem dX9_told_20 : decode cX9_told 20 = .ok (.bipush 30, 2) := by decide +kernel
theorem dX9_told_22 : decode cX9_told 22 = .ok (.if_icmp .ge 16, 3) := by decide +kernel
theorem dX9_told_25 : decode cX9_told 25 = .ok (.aload_n 0, 1) := by decide +kernel
theorem dX9_told_26 : decode cX9_told 26 = .ok (.iload_n 1, 1) := by decide +kernel
theorem dX9_told_27 : decode cX9_told 27 = .ok (.bipush 10, 2) := by decide +kernel
theorem dX9_told_29 : decode cX9_told 29 = .ok (.idiv, 1) := by decide +kernel
theorem dX9_told_30 : decode cX9_told 30 = .ok (.iload_n 1, 1) := by decide +kernel
theorem dX9_told_31 : decode cX9_told 31 = .ok (.bipush 10, 2) := by decide +kernel
theorem dX9_told_33 : decode cX9_told 33 = .ok (.irem, 1) := by decide +kernel
theorem dX9_told_34 : decode cX9_told 34 = .ok (.invokevirtual 252, 3) := by decide +kernel
theorem dX9_told_37 : decode cX9_told 37 = .ok (.ireturn, 1) := by decide +kernel
theorem dX9_told_38 : decode cX9_told 38 = .ok (.iload_n 1, 1) := by decide +kernel
theorem dX9_told_39 : decode cX9_told 39 = .ok (.bipush 100, 2) := by decide +kernel
theorem dX9_told_41 : decode cX9_told 41 = .ok (.if_icmp .ge 18, 3) := by decide +kernel
theorem dX9_told_44 : decode cX9_told 44 = .ok (.aload_n 0, 1) := by decide +kernel
theorem dX9_told_45 : decode cX9_told 45 = .ok (.iload_n 1, 1) := by decide +kernel
theorem dX9_told_46 : decode cX9_told 46 = .ok (.bipush 10, 2) := by decide +kernel
theorem dX9_told_48 : decode cX9_told 48 = .ok (.idiv, 1) := by decide +kernel
theorem dX9_told_49 : decode cX9_told 49 = .ok (.iconst 3, 1) := by decide +kernel
theorem dX9_told_50 : decode cX9_told 50 = .ok (.isub, 1) := by decide +kernel
theorem dX9_told_51 : decode cX9_told 51 = .ok (.iload_n 1, 1) := by decide +kernel
theorem dX9_told_52 : decode cX9_told 52 = .ok (.bipush 10, 2) := by decide +kernel
theorem dX9_told_54 : decode cX9_told 54 = .ok (.irem, 1) := by decide +kernel
theorem dX9_told_55 : decode cX9_told 55 = .ok (.invokevirtual 255, 3) := by decide +kernel
theorem dX9_told_58 : decode cX9_told 58 = .ok (.ireturn, 1) := by decide +kernel
theorem dX9_told_59 : decode cX9_told 59 = .ok (.aload_n 0, 1) := by decide +kernel
theorem dX9_told_60 : decode cX9_told 60 = .ok (.iload_n 1, 1) := by decide +kernel
theorem dX9_told_61 : decode cX9_told 61 = .ok (.bipush 100, 2) := by decide +kernel
theorem dX9_told_63 : decode cX9_told 63 = .ok (.idiv, 1) := by decide +kernel
theorem dX9_told_64 : decode cX9_told 64 = .ok (.iload_n 1, 1) := by decide +kernel
theorem dX9_told_65 : decode cX9_told 65 = .ok (.bipush 10, 2) := by decide +kernel
theorem dX9_told_67 : decode cX9_told 67 = .ok (.idiv, 1) := by decide +kernel
theorem dX9_told_68 : decode cX9_told 68 = .ok (.bipush 10, 2) := by decide +kernel
theorem dX9_told_70 : decode cX9_told 70 = .ok (.irem, 1) := by decide +kernel
theorem dX9_told_71 : decode cX9_told 71 = .ok (.iload_n 1, 1) := by decide +kernel
theorem dX9_told_72 : decode cX9_told 72 = .ok (.bipush 10, 2) := by decide +kernel
theorem dX9_told_74 : decode cX9_told 74 = .ok (.irem, 1) := by decide +kernel
theorem dX9_told_75 : decode cX9_told 75 = .ok (.invokevirtual 258, 3) := by decide +kernel
theorem dX9_told_78 : decode cX9_told 78 = .ok (.ireturn, 1) := by decide +kernel
theorem dX9_toldOfAll_0 : decode cX9_toldOfAll 0 = .ok (.iload_n 1, 1) := by decide +kernel
theorem dX9_toldOfAll_1 : decode cX9_toldOfAll 1 = .ok (.tableswitch 87 0 4 #[35, 43, 54, 65, 76], 35) := by decide +kernel
theorem dX9_toldOfAll_36 : decode cX9_toldOfAll 36 = .ok (.aload_n 0, 1) := by decide +kernel
theorem dX9_toldOfAll_37 : decode cX9_toldOfAll 37 = .ok (.getfield 32, 3) := by decide +kernel
theorem dX9_toldOfAll_40 : decode cX9_toldOfAll 40 = .ok (.invokevirtual 111, 3) := by decide +kernel
theorem dX9_toldOfAll_43 : decode cX9_toldOfAll 43 = .ok (.ireturn, 1) := by decide +kernel
theorem dX9_toldOfAll_44 : decode cX9_toldOfAll 44 = .ok (.aload_n 0, 1) := by decide +kernel
theorem dX9_toldOfAll_45 : decode cX9_toldOfAll 45 = .ok (.getfield 12, 3) := by decide +kernel
theorem dX9_toldOfAll_48 : decode cX9_toldOfAll 48 = .ok (.getfield 61, 3) := by decide +kernel
theorem dX9_toldOfAll_51 : decode cX9_toldOfAll 51 = .ok (.invokevirtual 147, 3) := by decide +kernel
theorem dX9_toldOfAll_54 : decode cX9_toldOfAll 54 = .ok (.ireturn, 1) := by decide +kernel
theorem dX9_toldOfAll_55 : decode cX9_toldOfAll 55 = .ok (.aload_n 0, 1) := by decide +kernel
theorem dX9_toldOfAll_56 : decode cX9_toldOfAll 56 = .ok (.getfield 12, 3) := by decide +kernel
theorem dX9_toldOfAll_59 : decode cX9_toldOfAll 59 = .ok (.getfield 61, 3) := by decide +kernel
theorem dX9_toldOfAll_62 : decode cX9_toldOfAll 62 = .ok (.invokevirtual 153, 3) := by decide +kernel
theorem dX9_toldOfAll_65 : decode cX9_toldOfAll 65 = .ok (.ireturn, 1) := by decide +kernel
theorem dX9_toldOfAll_66 : decode cX9_toldOfAll 66 = .ok (.aload_n 0, 1) := by decide +kernel
theorem dX9_toldOfAll_67 : decode cX9_toldOfAll 67 = .ok (.getfield 12, 3) := by decide +kernel
theorem dX9_toldOfAll_70 : decode cX9_toldOfAll 70 = .ok (.getfield 61, 3) := by decide +kernel
theorem dX9_toldOfAll_73 : decode cX9_toldOfAll 73 = .ok (.getfield 156, 3) := by decide +kernel
theorem dX9_toldOfAll_76 : decode cX9_toldOfAll 76 = .ok (.ireturn, 1) := by decide +kernel
theorem dX9_toldOfAll_77 : decode cX9_toldOfAll 77 = .ok (.aload_n 0, 1) := by decide +kernel
theorem dX9_toldOfAll_78 : decode cX9_toldOfAll 78 = .ok (.getfield 12, 3) := by decide +kernel
theorem dX9_toldOfAll_81 : decode cX9_toldOfAll 81 = .ok (.getfield 187, 3) := by decide +kernel
theorem dX9_toldOfAll_84 : decode cX9_toldOfAll 84 = .ok (.getfield 196, 3) := by decide +kernel
theorem dX9_toldOfAll_87 : decode cX9_toldOfAll 87 = .ok (.ireturn, 1) := by decide +kernel
theorem dX9_toldOfAll_88 : decode cX9_toldOfAll 88 = .ok (.bipush (-2), 2) := by decide +kernel
theorem dX9_toldOfAll_90 : decode cX9_toldOfAll 90 = .ok (.ireturn, 1) := by decide +kernel
theorem dX9_toldOfFarm_0 : decode cX9_toldOfFarm 0 = .ok (.iload_n 2, 1) := by decide +kernel
theorem dX9_toldOfFarm_1 : decode cX9_toldOfFarm 1 = .ok (.invokestatic 79, 3) := by decide +kernel
theorem dX9_toldOfFarm_4 : decode cX9_toldOfFarm 4 = .ok (.ifCond .ne 6, 3) := by decide +kernel
theorem dX9_toldOfFarm_7 : decode cX9_toldOfFarm 7 = .ok (.bipush (-2), 2) := by decide +kernel
theorem dX9_toldOfFarm_9 : decode cX9_toldOfFarm 9 = .ok (.ireturn, 1) := by decide +kernel
theorem dX9_toldOfFarm_10 : decode cX9_toldOfFarm 10 = .ok (.iload_n 1, 1) := by decide +kernel
theorem dX9_toldOfFarm_11 : decode cX9_toldOfFarm 11 = .ok (.iconst 1, 1) := by decide +kernel
theorem dX9_toldOfFarm_12 : decode cX9_toldOfFarm 12 = .ok (.if_icmp .ne 17, 3) := by decide +kernel
theorem dX9_toldOfFarm_15 : decode cX9_toldOfFarm 15 = .ok (.aload_n 0, 1) := by decide +kernel
theorem dX9_toldOfFarm_16 : decode cX9_toldOfFarm 16 = .ok (.getfield 12, 3) := by decide +kernel
theorem dX9_toldOfFarm_19 : decode cX9_toldOfFarm 19 = .ok (.getfield 61, 3) := by decide +kernel
theorem dX9_toldOfFarm_22 : decode cX9_toldOfFarm 22 = .ok (.iload_n 2, 1) := by decide +kernel
theorem dX9_toldOfFarm_23 : decode cX9_toldOfFarm 23 = .ok (.invokevirtual 83, 3) := by decide +kernel
theorem dX9_toldOfFarm_26 : decode cX9_toldOfFarm 26 = .ok (.goto 14, 3) := by decide +kernel
theorem dX9_toldOfFarm_29 : decode cX9_toldOfFarm 29 = .ok (.aload_n 0, 1) := by decide +kernel
theorem dX9_toldOfFarm_30 : decode cX9_toldOfFarm 30 = .ok (.getfield 12, 3) := by decide +kernel
theorem dX9_toldOfFarm_33 : decode cX9_toldOfFarm 33 = .ok (.getfield 61, 3) := by decide +kernel
theorem dX9_toldOfFarm_36 : decode cX9_toldOfFarm 36 = .ok (.iload_n 2, 1) := by decide +kernel
theorem dX9_toldOfFarm_37 : decode cX9_toldOfFarm 37 = .ok (.invokevirtual 144, 3) := by decide +kernel
theorem dX9_toldOfFarm_40 : decode cX9_toldOfFarm 40 = .ok (.ireturn, 1) := by decide +kernel
theorem dX9_toldOfOne_0 : decode cX9_toldOfOne 0 = .ok (.iload_n 1, 1) := by decide +kernel
theorem dX9_toldOfOne_1 : decode cX9_toldOfOne 1 = .ok (.iload_n 2, 1) := by decide +kernel
theorem dX9_toldOfOne_2 : decode cX9_toldOfOne 2 = .ok (.invokestatic 90, 3) := by decide +kernel
theorem dX9_toldOfOne_5 : decode cX9_toldOfOne 5 = .ok (.ifCond .eq 18, 3) := by decide +kernel
theorem dX9_toldOfOne_8 : decode cX9_toldOfOne 8 = .ok (.aload_n 0, 1) := by decide +kernel
theorem dX9_toldOfOne_9 : decode cX9_toldOfOne 9 = .ok (.getfield 12, 3) := by decide +kernel
theorem dX9_toldOfOne_12 : decode cX9_toldOfOne 12 = .ok (.getfield 98, 3) := by decide +kernel
theorem dX9_toldOfOne_15 : decode cX9_toldOfOne 15 = .ok (.iload_n 1, 1) := by decide +kernel
theorem dX9_toldOfOne_16 : decode cX9_toldOfOne 16 = .ok (.iload_n 2, 1) := by decide +kernel
theorem dX9_toldOfOne_17 : decode cX9_toldOfOne 17 = .ok (.invokevirtual 102, 3) := by decide +kernel
theorem dX9_toldOfOne_20 : decode cX9_toldOfOne 20 = .ok (.goto 5, 3) := by decide +kernel
theorem dX9_toldOfOne_23 : decode cX9_toldOfOne 23 = .ok (.bipush (-2), 2) := by decide +kernel
theorem dX9_toldOfOne_25 : decode cX9_toldOfOne 25 = .ok (.ireturn, 1) := by decide +kernel
theorem dX9_toldOfPair_0 : decode cX9_toldOfPair 0 = .ok (.iload_n 2, 1) := by decide +kernel
theorem dX9_toldOfPair_1 : decode cX9_toldOfPair 1 = .ok (.invokestatic 79, 3) := by decide +kernel
theorem dX9_toldOfPair_4 : decode cX9_toldOfPair 4 = .ok (.ifCond .eq 15, 3) := by decide +kernel
theorem dX9_toldOfPair_7 : decode cX9_toldOfPair 7 = .ok (.iload_n 3, 1) := by decide +kernel
theorem dX9_toldOfPair_8 : decode cX9_toldOfPair 8 = .ok (.invokestatic 79, 3) := by decide +kernel
theorem dX9_toldOfPair_11 : decode cX9_toldOfPair 11 = .ok (.ifCond .eq 8, 3) := by decide +kernel
theorem dX9_toldOfPair_14 : decode cX9_toldOfPair 14 = .ok (.iload_n 1, 1) := by decide +kernel
theorem dX9_toldOfPair_15 : decode cX9_toldOfPair 15 = .ok (.iconst 2, 1) := by decide +kernel
theorem dX9_toldOfPair_16 : decode cX9_toldOfPair 16 = .ok (.if_icmp .le 6, 3) := by decide +kernel
theorem dX9_toldOfPair_19 : decode cX9_toldOfPair 19 = .ok (.bipush (-2), 2) := by decide +kernel
theorem dX9_toldOfPair_21 : decode cX9_toldOfPair 21 = .ok (.ireturn, 1) := by decide +kernel
theorem dX9_toldOfPair_22 : decode cX9_toldOfPair 22 = .ok (.iload_n 1, 1) := by decide +kernel
theorem dX9_toldOfPair_23 : decode cX9_toldOfPair 23 = .ok (.iconst 1, 1) := by decide +kernel
theorem dX9_toldOfPair_24 : decode cX9_toldOfPair 24 = .ok (.if_icmp .ne 18, 3) := by decide +kernel
theorem dX9_toldOfPair_27 : decode cX9_toldOfPair 27 = .ok (.aload_n 0, 1) := by decide +kernel
theorem dX9_toldOfPair_28 : decode cX9_toldOfPair 28 = .ok (.getfield 12, 3) := by decide +kernel
theorem dX9_toldOfPair_31 : decode cX9_toldOfPair 31 = .ok (.getfield 61, 3) := by decide +kernel
theorem dX9_toldOfPair_34 : decode cX9_toldOfPair 34 = .ok (.iload_n 2, 1) := by decide +kernel
theorem dX9_toldOfPair_35 : decode cX9_toldOfPair 35 = .ok (.iload_n 3, 1) := by decide +kernel
theorem dX9_toldOfPair_36 : decode cX9_toldOfPair 36 = .ok (.invokevirtual 141, 3) := by decide +kernel
theorem dX9_toldOfPair_39 : decode cX9_toldOfPair 39 = .ok (.goto 15, 3) := by decide +kernel
theorem dX9_toldOfPair_42 : decode cX9_toldOfPair 42 = .ok (.aload_n 0, 1) := by decide +kernel
theorem dX9_toldOfPair_43 : decode cX9_toldOfPair 43 = .ok (.getfield 12, 3) := by decide +kernel
theorem dX9_toldOfPair_46 : decode cX9_toldOfPair 46 = .ok (.getfield 61, 3) := by decide +kernel
theorem dX9_toldOfPair_49 : decode cX9_toldOfPair 49 = .ok (.iload_n 2, 1) := by decide +kernel
theorem dX9_toldOfPair_50 : decode cX9_toldOfPair 50 = .ok (.iload_n 3, 1) := by decide +kernel
theorem dX9_toldOfPair_51 : decode cX9_toldOfPair 51 = .ok (.invokevirtual 72, 3) := by decide +kernel
theorem dX9_toldOfPair_54 : decode cX9_toldOfPair 54 = .ok (.ireturn, 1) := by decide +kernel
theorem dX9_isFarm_0 : decode cX9_isFarm 0 = .ok (.iload_n 0, 1) := by decide +kernel
theorem dX9_isFarm_1 : decode cX9_isFarm 1 = .ok (.ifCond .lt 13, 3) := by decide +kernel
theorem dX9_isFarm_4 : decode cX9_isFarm 4 = .ok (.iload_n 0, 1) := by decide +kernel
theorem dX9_isFarm_5 : decode cX9_isFarm 5 = .ok (.bipush 7, 2) := by decide +kernel
theorem dX9_isFarm_7 : decode cX9_isFarm 7 = .ok (.if_icmp .ge 7, 3) := by decide +kernel
theorem dX9_isFarm_10 : decode cX9_isFarm 10 = .ok (.iconst 1, 1) := by decide +kernel
theorem dX9_isFarm_11 : decode cX9_isFarm 11 = .ok (.goto 4, 3) := by decide +kernel
theorem dX9_isFarm_14 : decode cX9_isFarm 14 = .ok (.iconst 0, 1) := by decide +kernel
theorem dX9_isFarm_15 : decode cX9_isFarm 15 = .ok (.ireturn, 1) := by decide +kernel
theorem dX9_areTwoFarms_0 : decode cX9_areTwoFarms 0 = .ok (.iload_n 0, 1) := by decide +kernel
theorem dX9_areTwoFarms_1 : decode cX9_areTwoFarms 1 = .ok (.invokestatic 79, 3) := by decide +kernel
theorem dX9_areTwoFarms_4 : decode cX9_areTwoFarms 4 = .ok (.ifCond .eq 19, 3) := by decide +kernel
theorem dX9_areTwoFarms_7 : decode cX9_areTwoFarms 7 = .ok (.iload_n 1, 1) := by decide +kernel
theorem dX9_areTwoFarms_8 : decode cX9_areTwoFarms 8 = .ok (.invokestatic 79, 3) := by decide +kernel
theorem dX9_areTwoFarms_11 : decode cX9_areTwoFarms 11 = .ok (.ifCond .eq 12, 3) := by decide +kernel
theorem dX9_areTwoFarms_14 : decode cX9_areTwoFarms 14 = .ok (.iload_n 0, 1) := by decide +kernel
theorem dX9_areTwoFarms_15 : decode cX9_areTwoFarms 15 = .ok (.iload_n 1, 1) := by decide +kernel
theorem dX9_areTwoFarms_16 : decode cX9_areTwoFarms 16 = .ok (.if_icmp .eq 7, 3) := by decide +kernel
theorem dX9_areTwoFarms_19 : decode cX9_areTwoFarms 19 = .ok (.iconst 1, 1) := by decide +kernel
theorem dX9_areTwoFarms_20 : decode cX9_areTwoFarms 20 = .ok (.goto 4, 3) := by decide +kernel
theorem dX9_areTwoFarms_23 : decode cX9_areTwoFarms 23 = .ok (.iconst 0, 1) := by decide +kernel
theorem dX9_areTwoFarms_24 : decode cX9_areTwoFarms 24 = .ok (.ireturn, 1) := by decide +kernel
theorem dX9_isOne_0 : decode cX9_isOne 0 = .ok (.iload_n 0, 1) := by decide +kernel
theorem dX9_isOne_1 : decode cX9_isOne 1 = .ok (.invokestatic 120, 3) := by decide +kernel
theorem dX9_isOne_4 : decode cX9_isOne 4 = .ok (.ifCond .eq 16, 3) := by decide +kernel
theorem dX9_isOne_7 : decode cX9_isOne 7 = .ok (.iload_n 1, 1) := by decide +kernel
theorem dX9_isOne_8 : decode cX9_isOne 8 = .ok (.ifCond .lt 12, 3) := by decide +kernel
theorem dX9_isOne_11 : decode cX9_isOne 11 = .ok (.iload_n 1, 1) := by decide +kernel
theorem dX9_isOne_12 : decode cX9_isOne 12 = .ok (.iconst 4, 1) := by decide +kernel
theorem dX9_isOne_13 : decode cX9_isOne 13 = .ok (.if_icmp .ge 7, 3) := by decide +kernel
theorem dX9_isOne_16 : decode cX9_isOne 16 = .ok (.iconst 1, 1) := by decide +kernel
theorem dX9_isOne_17 : decode cX9_isOne 17 = .ok (.goto 4, 3) := by decide +kernel
theorem dX9_isOne_20 : decode cX9_isOne 20 = .ok (.iconst 0, 1) := by decide +kernel
theorem dX9_isOne_21 : decode cX9_isOne 21 = .ok (.ireturn, 1) := by decide +kernel
theorem dX9_isZeroOrOne_0 : decode cX9_isZeroOrOne 0 = .ok (.iload_n 0, 1) := by decide +kernel
theorem dX9_isZeroOrOne_1 : decode cX9_isZeroOrOne 1 = .ok (.ifCond .eq 8, 3) := by decide +kernel
theorem dX9_isZeroOrOne_4 : decode cX9_isZeroOrOne 4 = .ok (.iload_n 0, 1) := by decide +kernel
theorem dX9_isZeroOrOne_5 : decode cX9_isZeroOrOne 5 = .ok (.iconst 1, 1) := by decide +kernel
theorem dX9_isZeroOrOne_6 : decode cX9_isZeroOrOne 6 = .ok (.if_icmp .ne 7, 3) := by decide +kernel
theorem dX9_isZeroOrOne_9 : decode cX9_isZeroOrOne 9 = .ok (.iconst 1, 1) := by decide +kernel
theorem dX9_isZeroOrOne_10 : decode cX9_isZeroOrOne 10 = .ok (.goto 4, 3) := by decide +kernel
theorem dX9_isZeroOrOne_13 : decode cX9_isZeroOrOne 13 = .ok (.iconst 0, 1) := by decide +kernel
theorem dX9_isZeroOrOne_14 : decode cX9_isZeroOrOne 14 = .ok (.ireturn, 1) := by decide +kernel
theorem dX10_init_0 : decode cX10_init 0 = .ok (.aload_n 0, 1) := by decide +kernel
theorem dX10_init_1 : decode cX10_init 1 = .ok (.invokespecial 1, 3) := by decide +kernel
theorem dX10_init_4 : decode cX10_init 4 = .ok (.aload_n 0, 1) := by decide +kernel
theorem dX10_init_5 : decode cX10_init 5 = .ok (.bipush 64, 2) := by decide +kernel
theorem dX10_init_7 : decode cX10_init 7 = .ok (.newarray .int, 2) := by decide +kernel
theorem dX10_init_9 : decode cX10_init 9 = .ok (.putfield 7, 3) := by decide +kernel
theorem dX10_init_12 : decode cX10_init 12 = .ok (.aload_n 0, 1) := by decide +kernel
theorem dX10_init_13 : decode cX10_init 13 = .ok (.bipush 64, 2) := by decide +kernel
theorem dX10_init_15 : decode cX10_init 15 = .ok (.newarray .int, 2) := by decide +kernel
theorem dX10_init_17 : decode cX10_init 17 = .ok (.putfield 13, 3) := by decide +kernel
theorem dX10_init_20 : decode cX10_init 20 = .ok (.aload_n 0, 1) := by decide +kernel
theorem dX10_init_21 : decode cX10_init 21 = .ok (.bipush 49, 2) := by decide +kernel
theorem dX10_init_23 : decode cX10_init 23 = .ok (.newarray .int, 2) := by decide +kernel
theorem dX10_init_25 : decode cX10_init 25 = .ok (.putfield 16, 3) := by decide +kernel
theorem dX10_init_28 : decode cX10_init 28 = .ok (.aload_n 0, 1) := by decide +kernel
theorem dX10_init_29 : decode cX10_init 29 = .ok (.bipush 32, 2) := by decide +kernel
theorem dX10_init_31 : decode cX10_init 31 = .ok (.newarray .int, 2) := by decide +kernel
theorem dX10_init_33 : decode cX10_init 33 = .ok (.putfield 19, 3) := by decide +kernel
theorem dX10_init_36 : decode cX10_init 36 = .ok (.aload_n 0, 1) := by decide +kernel
theorem dX10_init_37 : decode cX10_init 37 = .ok (.bipush 24, 2) := by decide +kernel
theorem dX10_init_39 : decode cX10_init 39 = .ok (.newarray .int, 2) := by decide +kernel
theorem dX10_init_41 : decode cX10_init 41 = .ok (.putfield 22, 3) := by decide +kernel
theorem dX10_init_44 : decode cX10_init 44 = .ok (.aload_n 0, 1) := by decide +kernel
theorem dX10_init_45 : decode cX10_init 45 = .ok (.bipush 60, 2) := by decide +kernel
theorem dX10_init_47 : decode cX10_init 47 = .ok (.newarray .int, 2) := by decide +kernel
theorem dX10_init_49 : decode cX10_init 49 = .ok (.putfield 25, 3) := by decide +kernel
theorem dX10_init_52 : decode cX10_init 52 = .ok (.aload_n 0, 1) := by decide +kernel
theorem dX10_init_53 : decode cX10_init 53 = .ok (.bipush 49, 2) := by decide +kernel
theorem dX10_init_55 : decode cX10_init 55 = .ok (.newarray .int, 2) := by decide +kernel
theorem dX10_init_57 : decode cX10_init 57 = .ok (.putfield 28, 3) := by decide +kernel
theorem dX10_init_60 : decode cX10_init 60 = .ok (.aload_n 0, 1) := by decide +kernel
theorem dX10_init_61 : decode cX10_init 61 = .ok (.bipush 49, 2) := by decide +kernel
theorem dX10_init_63 : decode cX10_init 63 = .ok (.newarray .int, 2) := by decide +kernel
theorem dX10_init_65 : decode cX10_init 65 = .ok (.putfield 31, 3) := by decide +kernel
theorem dX10_init_68 : decode cX10_init 68 = .ok (.aload_n 0, 1) := by decide +kernel
theorem dX10_init_69 : decode cX10_init 69 = .ok (.sipush 896, 3) := by decide +kernel
theorem dX10_init_72 : decode cX10_init 72 = .ok (.newarray .int, 2) := by decide +kernel
theorem dX10_init_74 : decode cX10_init 74 = .ok (.putfield 34, 3) := by decide +kernel
theorem dX10_init_77 : decode cX10_init 77 = .ok (.aload_n 0, 1) := by decide +kernel
theorem dX10_init_78 : decode cX10_init 78 = .ok (.iconst 4, 1) := by decide +kernel
theorem dX10_init_79 : decode cX10_init 79 = .ok (.newarray .int, 2) := by decide +kernel
theorem dX10_init_81 : decode cX10_init 81 = .ok (.putfield 37, 3) := by decide +kernel
theorem dX10_init_84 : decode cX10_init 84 = .ok (.aload_n 0, 1) := by decide +kernel
theorem dX10_init_85 : decode cX10_init 85 = .ok (.iconst 4, 1) := by decide +kernel
theorem dX10_init_86 : decode cX10_init 86 = .ok (.newarray .int, 2) := by decide +kernel
theorem dX10_init_88 : decode cX10_init 88 = .ok (.putfield 40, 3) := by decide +kernel
theorem dX10_init_91 : decode cX10_init 91 = .ok (.aload_n 0, 1) := by decide +kernel
theorem dX10_init_92 : decode cX10_init 92 = .ok (.iconst 4, 1) := by decide +kernel
theorem dX10_init_93 : decode cX10_init 93 = .ok (.newarray .int, 2) := by decide +kernel
theorem dX10_init_95 : decode cX10_init 95 = .ok (.putfield 43, 3) := by decide +kernel
theorem dX10_init_98 : decode cX10_init 98 = .ok (.aload_n 0, 1) := by decide +kernel
theorem dX10_init_99 : decode cX10_init 99 = .ok (.sipush 410, 3) := by decide +kernel
theorem dX10_init_102 : decode cX10_init 102 = .ok (.newarray .int, 2) := by decide +kernel
theorem dX10_init_104 : decode cX10_init 104 = .ok (.putfield 46, 3) := by decide +kernel
theorem dX10_init_107 : decode cX10_init 107 = .ok (.aload_n 0, 1) := by decide +kernel
theorem dX10_init_108 : decode cX10_init 108 = .ok (.bipush 61, 2) := by decide +kernel
theorem dX10_init_110 : decode cX10_init 110 = .ok (.newarray .int, 2) := by decide +kernel
theorem dX10_init_112 : decode cX10_init 112 = .ok (.putfield 49, 3) := by decide +kernel
theorem dX10_init_115 : decode cX10_init 115 = .ok (.aload_n 0, 1) := by decide +kernel
theorem dX10_init_116 : decode cX10_init 116 = .ok (.bipush 64, 2) := by decide +kernel
theorem dX10_init_118 : decode cX10_init 118 = .ok (.newarray .boolean, 2) := by decide +kernel
theorem dX10_init_120 : decode cX10_init 120 = .ok (.putfield 52, 3) := by decide +kernel
theorem dX10_init_123 : decode cX10_init 123 = .ok (.aload_n 0, 1) := by decide +kernel
theorem dX10_init_124 : decode cX10_init 124 = .ok (.sipush 360, 3) := by decide +kernel
theorem dX10_init_127 : decode cX10_init 127 = .ok (.newarray .int, 2) := by decide +kernel
theorem dX10_init_129 : decode cX10_init 129 = .ok (.putfield 56, 3) := by decide +kernel
theorem dX10_init_132 : decode cX10_init 132 = .ok (.aload_n 0, 1) := by decide +kernel
theorem dX10_init_133 : decode cX10_init 133 = .ok (.iconst 2, 1) := by decide +kernel
theorem dX10_init_134 : decode cX10_init 134 = .ok (.newarray .boolean, 2) := by decide +kernel
theorem dX10_init_136 : decode cX10_init 136 = .ok (.putfield 59, 3) := by decide +kernel
theorem dX10_init_139 : decode cX10_init 139 = .ok (.iconst 0, 1) := by decide +kernel
theorem dX10_init_140 : decode cX10_init 140 = .ok (.istore_n 1, 1) := by decide +kernel
theorem dX10_init_141 : decode cX10_init 141 = .ok (.iload_n 1, 1) := by decide +kernel
theorem dX10_init_142 : decode cX10_init 142 = .ok (.bipush 49, 2) := by decide +kernel
theorem dX10_init_144 : decode cX10_init 144 = .ok (.if_icmp .ge 17, 3) := by decide +kernel
theorem dX10_init_147 : decode cX10_init 147 = .ok (.aload_n 0, 1) := by decide +kernel
theorem dX10_init_148 : decode cX10_init 148 = .ok (.getfield 7, 3) := by decide +kernel
theorem dX10_init_151 : decode cX10_init 151 = .ok (.iload_n 1, 1) := by decide +kernel
theorem dX10_init_152 : decode cX10_init 152 = .ok (.bipush (-6), 2) := by decide +kernel
theorem dX10_init_154 : decode cX10_init 154 = .ok (.iastore, 1) := by decide +kernel
theorem dX10_init_155 : decode cX10_init 155 = .ok (.iinc 1 1, 3) := by decide +kernel
theorem dX10_init_158 : decode cX10_init 158 = .ok (.goto (-17), 3) := by decide +kernel
theorem dX10_init_161 : decode cX10_init 161 = .ok (.iconst 0, 1) := by decide +kernel
theorem dX10_init_162 : decode cX10_init 162 = .ok (.istore_n 1, 1) := by decide +kernel
theorem dX10_init_163 : decode cX10_init 163 = .ok (.iload_n 1, 1) := by decide +kernel
theorem dX10_init_164 : decode cX10_init 164 = .ok (.bipush 7, 2) := by decide +kernel
theorem dX10_init_166 : decode cX10_init 166 = .ok (.if_icmp .ge 29, 3) := by decide +kernel
theorem dX10_init_169 : decode cX10_init 169 = .ok (.aload_n 0, 1) := by decide +kernel
theorem dX10_init_170 : decode cX10_init 170 = .ok (.getfield 7, 3) := by decide +kernel
theorem dX10_init_173 : decode cX10_init 173 = .ok (.bipush 49, 2) := by decide +kernel
theorem dX10_init_175 : decode cX10_init 175 = .ok (.iload_n 1, 1) := by decide +kernel
theorem dX10_init_176 : decode cX10_init 176 = .ok (.iadd, 1) := by decide +kernel
theorem dX10_init_177 : decode cX10_init 177 = .ok (.iload_n 1, 1) := by decide +kernel
theorem dX10_init_178 : decode cX10_init 178 = .ok (.iastore, 1) := by decide +kernel
theorem dX10_init_179 : decode cX10_init 179 = .ok (.aload_n 0, 1) := by decide +kernel
theorem dX10_init_180 : decode cX10_init 180 = .ok (.getfield 7, 3) := by decide +kernel
theorem dX10_init_183 : decode cX10_init 183 = .ok (.bipush 56, 2) := by decide +kernel
theorem dX10_init_185 : decode cX10_init 185 = .ok (.iload_n 1, 1) := by decide +kernel
theorem dX10_init_186 : decode cX10_init 186 = .ok (.iadd, 1) := by decide +kernel
theorem dX10_init_187 : decode cX10_init 187 = .ok (.iconst 5, 1) := by decide +kernel
theorem dX10_init_188 : decode cX10_init 188 = .ok (.iastore, 1) := by decide +kernel
theorem dX10_init_189 : decode cX10_init 189 = .ok (.iinc 1 1, 3) := by decide +kernel
theorem dX10_init_192 : decode cX10_init 192 = .ok (.goto (-29), 3) := by decide +kernel
theorem dX10_init_195 : decode cX10_init 195 = .ok (.iconst 0, 1) := by decide +kernel
theorem dX10_init_196 : decode cX10_init 196 = .ok (.istore_n 1, 1) := by decide +kernel
theorem dX10_init_197 : decode cX10_init 197 = .ok (.iload_n 1, 1) := by decide +kernel
theorem dX10_init_198 : decode cX10_init 198 = .ok (.bipush 32, 2) := by decide +kernel
theorem dX10_init_200 : decode cX10_init 200 = .ok (.if_icmp .ge 18, 3) := by decide +kernel
theorem dX10_init_203 : decode cX10_init 203 = .ok (.aload_n 0, 1) := by decide +kernel
theorem dX10_init_204 : decode cX10_init 204 = .ok (.getfield 19, 3) := by decide +kernel
theorem dX10_init_207 : decode cX10_init 207 = .ok (.iload_n 1, 1) := by decide +kernel
theorem dX10_init_208 : decode cX10_init 208 = .ok (.iload_n 1, 1) := by decide +kernel
theorem dX10_init_209 : decode cX10_init 209 = .ok (.iconst 4, 1) := by decide +kernel
theorem dX10_init_210 : decode cX10_init 210 = .ok (.irem, 1) := by decide +kernel
theorem dX10_init_211 : decode cX10_init 211 = .ok (.iastore, 1) := by decide +kernel
theorem dX10_init_212 : decode cX10_init 212 = .ok (.iinc 1 1, 3) := by decide +kernel
theorem dX10_init_215 : decode cX10_init 215 = .ok (.goto (-18), 3) := by decide +kernel
theorem dX10_init_218 : decode cX10_init 218 = .ok (.return_, 1) := by decide +kernel
theorem dX10_in_0 : decode cX10_in 0 = .ok (.iload_n 0, 1) := by decide +kernel
theorem dX10_in_1 : decode cX10_in 1 = .ok (.iload_n 1, 1) := by decide +kernel
theorem dX10_in_2 : decode cX10_in 2 = .ok (.if_icmp .lt 12, 3) := by decide +kernel
theorem dX10_in_5 : decode cX10_in 5 = .ok (.iload_n 0, 1) := by decide +kernel
theorem dX10_in_6 : decode cX10_in 6 = .ok (.iload_n 2, 1) := by decide +kernel
theorem dX10_in_7 : decode cX10_in 7 = .ok (.if_icmp .gt 7, 3) := by decide +kernel
theorem dX10_in_10 : decode cX10_in 10 = .ok (.iconst 1, 1) := by decide +kernel
theorem dX10_in_11 : decode cX10_in 11 = .ok (.goto 4, 3) := by decide +kernel
theorem dX10_in_14 : decode cX10_in 14 = .ok (.iconst 0, 1) := by decide +kernel
theorem dX10_in_15 : decode cX10_in 15 = .ok (.ireturn, 1) := by decide +kernel
theorem dX10_has_0 : decode cX10_has 0 = .ok (.iload_n 0, 1) := by decide +kernel
theorem dX10_has_1 : decode cX10_has 1 = .ok (.iload_n 1, 1) := by decide +kernel
theorem dX10_has_2 : decode cX10_has 2 = .ok (.ishr, 1) := by decide +kernel
theorem dX10_has_3 : decode cX10_has 3 = .ok (.iconst 1, 1) := by decide +kernel
theorem dX10_has_4 : decode cX10_has 4 = .ok (.iand, 1) := by decide +kernel
theorem dX10_has_5 : decode cX10_has 5 = .ok (.iconst 1, 1) := by decide +kernel
theorem dX10_has_6 : decode cX10_has 6 = .ok (.if_icmp .ne 7, 3) := by decide +kernel
theorem dX10_has_9 : decode cX10_has 9 = .ok (.iconst 1, 1) := by decide +kernel
theorem dX10_has_10 : decode cX10_has 10 = .ok (.goto 4, 3) := by decide +kernel
theorem dX10_has_13 : decode cX10_has 13 = .ok (.iconst 0, 1) := by decide +kernel
theorem dX10_has_14 : decode cX10_has 14 = .ok (.ireturn, 1) := by decide +kernel
theorem dX10_isFarm_0 : decode cX10_isFarm 0 = .ok (.iload_n 0, 1) := by decide +kernel
theorem dX10_isFarm_1 : decode cX10_isFarm 1 = .ok (.iconst 0, 1) := by decide +kernel
theorem dX10_isFarm_2 : decode cX10_isFarm 2 = .ok (.bipush 6, 2) := by decide +kernel
theorem dX10_isFarm_4 : decode cX10_isFarm 4 = .ok (.invokestatic 62, 3) := by decide +kernel
theorem dX10_isFarm_7 : decode cX10_isFarm 7 = .ok (.ireturn, 1) := by decide +kernel
theorem dX10_pale_0 : decode cX10_pale 0 = .ok (.iload_n 1, 1) := by decide +kernel
theorem dX10_pale_1 : decode cX10_pale 1 = .ok (.invokestatic 66, 3) := by decide +kernel
theorem dX10_pale_4 : decode cX10_pale 4 = .ok (.ifCond .eq 15, 3) := by decide +kernel
theorem dX10_pale_7 : decode cX10_pale 7 = .ok (.iload_n 2, 1) := by decide +kernel
theorem dX10_pale_8 : decode cX10_pale 8 = .ok (.invokestatic 66, 3) := by decide +kernel
theorem dX10_pale_11 : decode cX10_pale 11 = .ok (.ifCond .eq 8, 3) := by decide +kernel
theorem dX10_pale_14 : decode cX10_pale 14 = .ok (.iload_n 1, 1) := by decide +kernel
theorem dX10_pale_15 : decode cX10_pale 15 = .ok (.iload_n 2, 1) := by decide +kernel
theorem dX10_pale_16 : decode cX10_pale 16 = .ok (.if_icmp .ne 5, 3) := by decide +kernel
theorem dX10_pale_19 : decode cX10_pale 19 = .ok (.iconst (-1), 1) := by decide +kernel
theorem dX10_pale_20 : decode cX10_pale 20 = .ok (.ireturn, 1) := by decide +kernel
theorem dX10_pale_21 : decode cX10_pale 21 = .ok (.iload_n 3, 1) := by decide +kernel
theorem dX10_pale_22 : decode cX10_pale 22 = .ok (.iconst (-1), 1) := by decide +kernel
theorem dX10_pale_23 : decode cX10_pale 23 = .ok (.bipush 9, 2) := by decide +kernel
theorem dX10_pale_25 : decode cX10_pale 25 = .ok (.invokestatic 62, 3) := by decide +kernel
theorem dX10_pale_28 : decode cX10_pale 28 = .ok (.ifCond .ne 6, 3) := by decide +kernel
theorem dX10_pale_31 : decode cX10_pale 31 = .ok (.bipush (-2), 2) := by decide +kernel
theorem dX10_pale_33 : decode cX10_pale 33 = .ok (.ireturn, 1) := by decide +kernel
theorem dX10_pale_34 : decode cX10_pale 34 = .ok (.aload_n 0, 1) := by decide +kernel
theorem dX10_pale_35 : decode cX10_pale 35 = .ok (.getfield 7, 3) := by decide +kernel
theorem dX10_pale_38 : decode cX10_pale 38 = .ok (.bipush 7, 2) := by decide +kernel
theorem dX10_pale_40 : decode cX10_pale 40 = .ok (.iload_n 1, 1) := by decide +kernel
theorem dX10_pale_41 : decode cX10_pale 41 = .ok (.imul, 1) := by decide +kernel
theorem dX10_pale_42 : decode cX10_pale 42 = .ok (.iload_n 2, 1) := by decide +kernel
theorem dX10_pale_43 : decode cX10_pale 43 = .ok (.iadd, 1) := by decide +kernel
theorem dX10_pale_44 : decode cX10_pale 44 = .ok (.iload_n 3, 1) := by decide +kernel
theorem dX10_pale_45 : decode cX10_pale 45 = .ok (.ifCond .ge 8, 3) := by decide +kernel
theorem dX10_pale_48 : decode cX10_pale 48 = .ok (.bipush (-6), 2) := by decide +kernel
theorem dX10_pale_50 : decode cX10_pale 50 = .ok (.goto 4, 3) := by decide +kernel
theorem dX10_pale_53 : decode cX10_pale 53 = .ok (.iload_n 3, 1) := by decide +kernel
theorem dX10_pale_54 : decode cX10_pale 54 = .ok (.iastore, 1) := by decide +kernel
theorem dX10_pale_55 : decode cX10_pale 55 = .ok (.aload_n 0, 1) := by decide +kernel
theorem dX10_pale_56 : decode cX10_pale 56 = .ok (.getfield 7, 3) := by decide +kernel
theorem dX10_pale_59 : decode cX10_pale 59 = .ok (.bipush 7, 2) := by decide +kernel
theorem dX10_pale_61 : decode cX10_pale 61 = .ok (.iload_n 2, 1) := by decide +kernel
theorem dX10_pale_62 : decode cX10_pale 62 = .ok (.imul, 1) := by decide +kernel
theorem dX10_pale_63 : decode cX10_pale 63 = .ok (.iload_n 1, 1) := by decide +kernel
theorem dX10_pale_64 : decode cX10_pale 64 = .ok (.iadd, 1) := by decide +kernel
theorem dX10_pale_65 : decode cX10_pale 65 = .ok (.iload_n 3, 1) := by decide +kernel
theorem dX10_pale_66 : decode cX10_pale 66 = .ok (.ifCond .ge 8, 3) := by decide +kernel
theorem dX10_pale_69 : decode cX10_pale 69 = .ok (.bipush (-6), 2) := by decide +kernel
theorem dX10_pale_71 : decode cX10_pale 71 = .ok (.goto 4, 3) := by decide +kernel
theorem dX10_pale_74 : decode cX10_pale 74 = .ok (.iload_n 3, 1) := by decide +kernel
theorem dX10_pale_75 : decode cX10_pale 75 = .ok (.iastore, 1) := by decide +kernel
theorem dX10_pale_76 : decode cX10_pale 76 = .ok (.aload_n 0, 1) := by decide +kernel
theorem dX10_pale_77 : decode cX10_pale 77 = .ok (.invokevirtual 70, 3) := by decide +kernel
theorem dX10_pale_80 : decode cX10_pale 80 = .ok (.aload_n 0, 1) := by decide +kernel
theorem dX10_pale_81 : decode cX10_pale 81 = .ok (.bipush 9, 2) := by decide +kernel
theorem dX10_pale_83 : decode cX10_pale 83 = .ok (.invokevirtual 73, 3) := by decide +kernel
theorem dX10_pale_86 : decode cX10_pale 86 = .ok (.ireturn, 1) := by decide +kernel
theorem dX10_road_0 : decode cX10_road 0 = .ok (.iload_n 1, 1) := by decide +kernel
theorem dX10_road_1 : decode cX10_road 1 = .ok (.invokestatic 66, 3) := by decide +kernel
theorem dX10_road_4 : decode cX10_road 4 = .ok (.ifCond .eq 15, 3) := by decide +kernel
theorem dX10_road_7 : decode cX10_road 7 = .ok (.iload_n 2, 1) := by decide +kernel
theorem dX10_road_8 : decode cX10_road 8 = .ok (.invokestatic 66, 3) := by decide +kernel
theorem dX10_road_11 : decode cX10_road 11 = .ok (.ifCond .eq 8, 3) := by decide +kernel
theorem dX10_road_14 : decode cX10_road 14 = .ok (.iload_n 1, 1) := by decide +kernel
theorem dX10_road_15 : decode cX10_road 15 = .ok (.iload_n 2, 1) := by decide +kernel
theorem dX10_road_16 : decode cX10_road 16 = .ok (.if_icmp .ne 5, 3) := by decide +kernel
theorem dX10_road_19 : decode cX10_road 19 = .ok (.iconst (-1), 1) := by decide +kernel
theorem dX10_road_20 : decode cX10_road 20 = .ok (.ireturn, 1) := by decide +kernel
theorem dX10_road_21 : decode cX10_road 21 = .ok (.iload_n 3, 1) := by decide +kernel
theorem dX10_road_22 : decode cX10_road 22 = .ok (.iconst 0, 1) := by decide +kernel
theorem dX10_road_23 : decode cX10_road 23 = .ok (.bipush 9, 2) := by decide +kernel
theorem dX10_road_25 : decode cX10_road 25 = .ok (.invokestatic 62, 3) := by decide +kernel
theorem dX10_road_28 : decode cX10_road 28 = .ok (.ifCond .ne 6, 3) := by decide +kernel
theorem dX10_road_31 : decode cX10_road 31 = .ok (.bipush (-2), 2) := by decide +kernel
theorem dX10_road_33 : decode cX10_road 33 = .ok (.ireturn, 1) := by decide +kernel
theorem dX10_road_34 : decode cX10_road 34 = .ok (.aload_n 0, 1) := by decide +kernel
theorem dX10_road_35 : decode cX10_road 35 = .ok (.getfield 16, 3) := by decide +kernel
theorem dX10_road_38 : decode cX10_road 38 = .ok (.bipush 7, 2) := by decide +kernel
theorem dX10_road_40 : decode cX10_road 40 = .ok (.iload_n 1, 1) := by decide +kernel
theorem dX10_road_41 : decode cX10_road 41 = .ok (.imul, 1) := by decide +kernel
theorem dX10_road_42 : decode cX10_road 42 = .ok (.iload_n 2, 1) := by decide +kernel
theorem dX10_road_43 : decode cX10_road 43 = .ok (.iadd, 1) := by decide +kernel
theorem dX10_road_44 : decode cX10_road 44 = .ok (.iaload, 1) := by decide +kernel
theorem dX10_road_45 : decode cX10_road 45 = .ok (.istore 4, 2) := by decide +kernel
theorem dX10_road_47 : decode cX10_road 47 = .ok (.aload_n 0, 1) := by decide +kernel
theorem dX10_road_48 : decode cX10_road 48 = .ok (.getfield 16, 3) := by decide +kernel
theorem dX10_road_51 : decode cX10_road 51 = .ok (.bipush 7, 2) := by decide +kernel
theorem dX10_road_53 : decode cX10_road 53 = .ok (.iload_n 1, 1) := by decide +kernel
theorem dX10_road_54 : decode cX10_road 54 = .ok (.imul, 1) := by decide +kernel
theorem dX10_road_55 : decode cX10_road 55 = .ok (.iload_n 2, 1) := by decide +kernel
theorem dX10_road_56 : decode cX10_road 56 = .ok (.iadd, 1) := by decide +kernel
theorem dX10_road_57 : decode cX10_road 57 = .ok (.iload_n 3, 1) := by decide +kernel
theorem dX10_road_58 : decode cX10_road 58 = .ok (.iastore, 1) := by decide +kernel
theorem dX10_road_59 : decode cX10_road 59 = .ok (.aload_n 0, 1) := by decide +kernel
theorem dX10_road_60 : decode cX10_road 60 = .ok (.getfield 16, 3) := by decide +kernel
theorem dX10_road_63 : decode cX10_road 63 = .ok (.bipush 7, 2) := by decide +kernel
theorem dX10_road_65 : decode cX10_road 65 = .ok (.iload_n 2, 1) := by decide +kernel
theorem dX10_road_66 : decode cX10_road 66 = .ok (.imul, 1) := by decide +kernel
theorem dX10_road_67 : decode cX10_road 67 = .ok (.iload_n 1, 1) := by decide +kernel
theorem dX10_road_68 : decode cX10_road 68 = .ok (.iadd, 1) := by decide +kernel
theorem dX10_road_69 : decode cX10_road 69 = .ok (.iload_n 3, 1) := by decide +kernel
theorem dX10_road_70 : decode cX10_road 70 = .ok (.iastore, 1) := by decide +kernel
theorem dX10_road_71 : decode cX10_road 71 = .ok (.iload 4, 2) := by decide +kernel
theorem dX10_road_73 : decode cX10_road 73 = .ok (.ireturn, 1) := by decide +kernel
theorem dX10_farm_0 : decode cX10_farm 0 = .ok (.iload_n 1, 1) := by decide +kernel
theorem dX10_farm_1 : decode cX10_farm 1 = .ok (.invokestatic 66, 3) := by decide +kernel
theorem dX10_farm_4 : decode cX10_farm 4 = .ok (.ifCond .eq 10, 3) := by decide +kernel
theorem dX10_farm_7 : decode cX10_farm 7 = .ok (.iload_n 3, 1) := by decide +kernel
theorem dX10_farm_8 : decode cX10_farm 8 = .ok (.invokestatic 66, 3) := by decide +kernel
theorem dX10_farm_11 : decode cX10_farm 11 = .ok (.ifCond .ne 5, 3) := by decide +kernel
theorem dX10_farm_14 : decode cX10_farm 14 = .ok (.iconst (-1), 1) := by decide +kernel
theorem dX10_farm_15 : decode cX10_farm 15 = .ok (.ireturn, 1) := by decide +kernel
theorem dX10_farm_16 : decode cX10_farm 16 = .ok (.iload_n 2, 1) := by decide +kernel
theorem dX10_farm_17 : decode cX10_farm 17 = .ok (.iconst 0, 1) := by decide +kernel
theorem dX10_farm_18 : decode cX10_farm 18 = .ok (.bipush 99, 2) := by decide +kernel
theorem dX10_farm_20 : decode cX10_farm 20 = .ok (.invokestatic 62, 3) := by decide +kernel
theorem dX10_farm_23 : decode cX10_farm 23 = .ok (.ifCond .ne 6, 3) := by decide +kernel
theorem dX10_farm_26 : decode cX10_farm 26 = .ok (.bipush (-2), 2) := by decide +kernel
theorem dX10_farm_28 : decode cX10_farm 28 = .ok (.ireturn, 1) := by decide +kernel
theorem dX10_farm_29 : decode cX10_farm 29 = .ok (.aload_n 0, 1) := by decide +kernel
theorem dX10_farm_30 : decode cX10_farm 30 = .ok (.getfield 7, 3) := by decide +kernel
theorem dX10_farm_33 : decode cX10_farm 33 = .ok (.bipush 49, 2) := by decide +kernel
theorem dX10_farm_35 : decode cX10_farm 35 = .ok (.iload_n 1, 1) := by decide +kernel
theorem dX10_farm_36 : decode cX10_farm 36 = .ok (.iadd, 1) := by decide +kernel
theorem dX10_farm_37 : decode cX10_farm 37 = .ok (.iaload, 1) := by decide +kernel
theorem dX10_farm_38 : decode cX10_farm 38 = .ok (.istore 4, 2) := by decide +kernel
theorem dX10_farm_40 : decode cX10_farm 40 = .ok (.aload_n 0, 1) := by decide +kernel
theorem dX10_farm_41 : decode cX10_farm 41 = .ok (.getfield 7, 3) := by decide +kernel
theorem dX10_farm_44 : decode cX10_farm 44 = .ok (.bipush 49, 2) := by decide +kernel
theorem dX10_farm_46 : decode cX10_farm 46 = .ok (.iload_n 1, 1) := by decide +kernel
theorem dX10_farm_47 : decode cX10_farm 47 = .ok (.iadd, 1) := by decide +kernel
theorem dX10_farm_48 : decode cX10_farm 48 = .ok (.iload_n 3, 1) := by decide +kernel
theorem dX10_farm_49 : decode cX10_farm 49 = .ok (.iastore, 1) := by decide +kernel
theorem dX10_farm_50 : decode cX10_farm 50 = .ok (.aload_n 0, 1) := by decide +kernel
theorem dX10_farm_51 : decode cX10_farm 51 = .ok (.getfield 7, 3) := by decide +kernel
theorem dX10_farm_54 : decode cX10_farm 54 = .ok (.bipush 56, 2) := by decide +kernel
theorem dX10_farm_56 : decode cX10_farm 56 = .ok (.iload_n 1, 1) := by decide +kernel
theorem dX10_farm_57 : decode cX10_farm 57 = .ok (.iadd, 1) := by decide +kernel
theorem dX10_farm_58 : decode cX10_farm 58 = .ok (.iload_n 2, 1) := by decide +kernel
theorem dX10_farm_59 : decode cX10_farm 59 = .ok (.iastore, 1) := by decide +kernel
theorem dX10_farm_60 : decode cX10_farm 60 = .ok (.iload 4, 2) := by decide +kernel
theorem dX10_farm_62 : decode cX10_farm 62 = .ok (.ireturn, 1) := by decide +kernel
theorem dX10_rowOf_0 : decode cX10_rowOf 0 = .ok (.iconst 0, 1) := by decide +kernel
theorem dX10_rowOf_1 : decode cX10_rowOf 1 = .ok (.istore_n 3, 1) := by decide +kernel
theorem dX10_rowOf_2 : decode cX10_rowOf 2 = .ok (.iconst 0, 1) := by decide +kernel
theorem dX10_rowOf_3 : decode cX10_rowOf 3 = .ok (.istore 4, 2) := by decide +kernel
theorem dX10_rowOf_5 : decode cX10_rowOf 5 = .ok (.iload 4, 2) := by decide +kernel
theorem dX10_rowOf_7 : decode cX10_rowOf 7 = .ok (.iconst 4, 1) := by decide +kernel
theorem dX10_rowOf_8 : decode cX10_rowOf 8 = .ok (.if_icmp .ge 31, 3) := by decide +kernel
theorem dX10_rowOf_11 : decode cX10_rowOf 11 = .ok (.bipush 10, 2) := by decide +kernel
theorem dX10_rowOf_13 : decode cX10_rowOf 13 = .ok (.iload_n 3, 1) := by decide +kernel
theorem dX10_rowOf_14 : decode cX10_rowOf 14 = .ok (.imul, 1) := by decide +kernel
theorem dX10_rowOf_15 : decode cX10_rowOf 15 = .ok (.aload_n 0, 1) := by decide +kernel
theorem dX10_rowOf_16 : decode cX10_rowOf 16 = .ok (.getfield 19, 3) := by decide +kernel
theorem dX10_rowOf_19 : decode cX10_rowOf 19 = .ok (.bipush 16, 2) := by decide +kernel
theorem dX10_rowOf_21 : decode cX10_rowOf 21 = .ok (.iload_n 1, 1) := by decide +kernel
theorem dX10_rowOf_22 : decode cX10_rowOf 22 = .ok (.imul, 1) := by decide +kernel
theorem dX10_rowOf_23 : decode cX10_rowOf 23 = .ok (.iconst 4, 1) := by decide +kernel
theorem dX10_rowOf_24 : decode cX10_rowOf 24 = .ok (.iload_n 2, 1) := by decide +kernel
theorem dX10_rowOf_25 : decode cX10_rowOf 25 = .ok (.imul, 1) := by decide +kernel
theorem dX10_rowOf_26 : decode cX10_rowOf 26 = .ok (.iadd, 1) := by decide +kernel
theorem dX10_rowOf_27 : decode cX10_rowOf 27 = .ok (.iload 4, 2) := by decide +kernel
theorem dX10_rowOf_29 : decode cX10_rowOf 29 = .ok (.iadd, 1) := by decide +kernel
theorem dX10_rowOf_30 : decode cX10_rowOf 30 = .ok (.iaload, 1) := by decide +kernel
theorem dX10_rowOf_31 : decode cX10_rowOf 31 = .ok (.iadd, 1) := by decide +kernel
theorem dX10_rowOf_32 : decode cX10_rowOf 32 = .ok (.istore_n 3, 1) := by decide +kernel
theorem dX10_rowOf_33 : decode cX10_rowOf 33 = .ok (.iinc 4 1, 3) := by decide +kernel
theorem dX10_rowOf_36 : decode cX10_rowOf 36 = .ok (.goto (-31), 3) := by decide +kernel
theorem dX10_rowOf_39 : decode cX10_rowOf 39 = .ok (.iload_n 3, 1) := by decide +kernel
theorem dX10_rowOf_40 : decode cX10_rowOf 40 = .ok (.ireturn, 1) := by decide +kernel
theorem dX10_likes_0 : decode cX10_likes 0 = .ok (.iload_n 1, 1) := by decide +kernel
theorem dX10_likes_1 : decode cX10_likes 1 = .ok (.iconst 0, 1) := by decide +kernel
theorem dX10_likes_2 : decode cX10_likes 2 = .ok (.iconst 1, 1) := by decide +kernel
theorem dX10_likes_3 : decode cX10_likes 3 = .ok (.invokestatic 62, 3) := by decide +kernel
theorem dX10_likes_6 : decode cX10_likes 6 = .ok (.ifCond .eq 12, 3) := by decide +kernel
theorem dX10_likes_9 : decode cX10_likes 9 = .ok (.iload_n 2, 1) := by decide +kernel
theorem dX10_likes_10 : decode cX10_likes 10 = .ok (.iconst 0, 1) := by decide +kernel
theorem dX10_likes_11 : decode cX10_likes 11 = .ok (.iconst 3, 1) := by decide +kernel
theorem dX10_likes_12 : decode cX10_likes 12 = .ok (.invokestatic 62, 3) := by decide +kernel
theorem dX10_likes_15 : decode cX10_likes 15 = .ok (.ifCond .ne 5, 3) := by decide +kernel
theorem dX10_likes_18 : decode cX10_likes 18 = .ok (.iconst (-1), 1) := by decide +kernel
theorem dX10_likes_19 : decode cX10_likes 19 = .ok (.ireturn, 1) := by decide +kernel
theorem dX10_likes_20 : decode cX10_likes 20 = .ok (.iconst 0, 1) := by decide +kernel
theorem dX10_likes_21 : decode cX10_likes 21 = .ok (.istore 4, 2) := by decide +kernel
theorem dX10_likes_23 : decode cX10_likes 23 = .ok (.iload_n 3, 1) := by decide +kernel
theorem dX10_likes_24 : decode cX10_likes 24 = .ok (.istore 5, 2) := by decide +kernel
theorem dX10_likes_26 : decode cX10_likes 26 = .ok (.iconst 0, 1) := by decide +kernel
theorem dX10_likes_27 : decode cX10_likes 27 = .ok (.istore 6, 2) := by decide +kernel
theorem dX10_likes_29 : decode cX10_likes 29 = .ok (.iload 6, 2) := by decide +kernel
theorem dX10_likes_31 : decode cX10_likes 31 = .ok (.iconst 4, 1) := by decide +kernel
theorem dX10_likes_32 : decode cX10_likes 32 = .ok (.if_icmp .ge 32, 3) := by decide +kernel
theorem dX10_likes_35 : decode cX10_likes 35 = .ok (.iload_n 3, 1) := by decide +kernel
theorem dX10_likes_36 : decode cX10_likes 36 = .ok (.ifCond .lt 28, 3) := by decide +kernel
theorem dX10_likes_39 : decode cX10_likes 39 = .ok (.iload 4, 2) := by decide +kernel
theorem dX10_likes_41 : decode cX10_likes 41 = .ok (.iconst 1, 1) := by decide +kernel
theorem dX10_likes_42 : decode cX10_likes 42 = .ok (.iload 5, 2) := by decide +kernel
theorem dX10_likes_44 : decode cX10_likes 44 = .ok (.bipush 10, 2) := by decide +kernel
theorem dX10_likes_46 : decode cX10_likes 46 = .ok (.irem, 1) := by decide +kernel
theorem dX10_likes_47 : decode cX10_likes 47 = .ok (.ishl, 1) := by decide +kernel
theorem dX10_likes_48 : decode cX10_likes 48 = .ok (.ior, 1) := by decide +kernel
theorem dX10_likes_49 : decode cX10_likes 49 = .ok (.istore 4, 2) := by decide +kernel
theorem dX10_likes_51 : decode cX10_likes 51 = .ok (.iload 5, 2) := by decide +kernel
theorem dX10_likes_53 : decode cX10_likes 53 = .ok (.bipush 10, 2) := by decide +kernel
theorem dX10_likes_55 : decode cX10_likes 55 = .ok (.idiv, 1) := by decide +kernel
theorem dX10_likes_56 : decode cX10_likes 56 = .ok (.istore 5, 2) := by decide +kernel
theorem dX10_likes_58 : decode cX10_likes 58 = .ok (.iinc 6 1, 3) := by decide +kernel
theorem dX10_likes_61 : decode cX10_likes 61 = .ok (.goto (-32), 3) := by decide +kernel
theorem dX10_likes_64 : decode cX10_likes 64 = .ok (.iload 4, 2) := by decide +kernel
theorem dX10_likes_66 : decode cX10_likes 66 = .ok (.bipush 15, 2) := by decide +kernel
theorem dX10_likes_68 : decode cX10_likes 68 = .ok (.if_icmp .ne 8, 3) := by decide +kernel
theorem dX10_likes_71 : decode cX10_likes 71 = .ok (.iload 5, 2) := by decide +kernel
theorem dX10_likes_73 : decode cX10_likes 73 = .ok (.ifCond .eq 6, 3) := by decide +kernel
theorem dX10_likes_76 : decode cX10_likes 76 = .ok (.bipush (-2), 2) := by decide +kernel
theorem dX10_likes_78 : decode cX10_likes 78 = .ok (.ireturn, 1) := by decide +kernel
theorem dX10_likes_79 : decode cX10_likes 79 = .ok (.aload_n 0, 1) := by decide +kernel
theorem dX10_likes_80 : decode cX10_likes 80 = .ok (.iload_n 1, 1) := by decide +kernel
theorem dX10_likes_81 : decode cX10_likes 81 = .ok (.iload_n 2, 1) := by decide +kernel
theorem dX10_likes_82 : decode cX10_likes 82 = .ok (.invokevirtual 77, 3) := by decide +kernel
theorem dX10_likes_85 : decode cX10_likes 85 = .ok (.istore 6, 2) := by decide +kernel
theorem dX10_likes_87 : decode cX10_likes 87 = .ok (.iload_n 3, 1) := by decide +kernel
theorem dX10_likes_88 : decode cX10_likes 88 = .ok (.istore 5, 2) := by decide +kernel
theorem dX10_likes_90 : decode cX10_likes 90 = .ok (.iconst 3, 1) := by decide +kernel
theorem dX10_likes_91 : decode cX10_likes 91 = .ok (.istore 7, 2) := by decide +kernel
theorem dX10_likes_93 : decode cX10_likes 93 = .ok (.iload 7, 2) := by decide +kernel
theorem dX10_likes_95 : decode cX10_likes 95 = .ok (.ifCond .lt 37, 3) := by decide +kernel
theorem dX10_likes_98 : decode cX10_likes 98 = .ok (.aload_n 0, 1) := by decide +kernel
theorem dX10_likes_99 : decode cX10_likes 99 = .ok (.getfield 19, 3) := by decide +kernel
theorem dX10_likes_102 : decode cX10_likes 102 = .ok (.bipush 16, 2) := by decide +kernel
theorem dX10_likes_104 : decode cX10_likes 104 = .ok (.iload_n 1, 1) := by decide +kernel
theorem dX10_likes_105 : decode cX10_likes 105 = .ok (.imul, 1) := by decide +kernel
theorem dX10_likes_106 : decode cX10_likes 106 = .ok (.iconst 4, 1) := by decide +kernel
theorem dX10_likes_107 : decode cX10_likes 107 = .ok (.iload_n 2, 1) := by decide +kernel
theorem dX10_likes_108 : decode cX10_likes 108 = .ok (.imul, 1) := by decide +kernel
theorem dX10_likes_109 : decode cX10_likes 109 = .ok (.iadd, 1) := by decide +kernel
theorem dX10_likes_110 : decode cX10_likes 110 = .ok (.iload 7, 2) := by decide +kernel
theorem dX10_likes_112 : decode cX10_likes 112 = .ok (.iadd, 1) := by decide +kernel
theorem dX10_likes_113 : decode cX10_likes 113 = .ok (.iload 5, 2) := by decide +kernel
theorem dX10_likes_115 : decode cX10_likes 115 = .ok (.bipush 10, 2) := by decide +kernel
theorem dX10_likes_117 : decode cX10_likes 117 = .ok (.irem, 1) := by decide +kernel
theorem dX10_likes_118 : decode cX10_likes 118 = .ok (.iastore, 1) := by decide +kernel
theorem dX10_likes_119 : decode cX10_likes 119 = .ok (.iload 5, 2) := by decide +kernel
theorem dX10_likes_121 : decode cX10_likes 121 = .ok (.bipush 10, 2) := by decide +kernel
theorem dX10_likes_123 : decode cX10_likes 123 = .ok (.idiv, 1) := by decide +kernel
theorem dX10_likes_124 : decode cX10_likes 124 = .ok (.istore 5, 2) := by decide +kernel
end
section
theorem dX10_likes_126 : decode cX10_likes 126 = .ok (.iinc 7 (-1), 3) := by decide +kernel
theorem dX10_likes_129 : decode cX10_likes 129 = .ok (.goto (-36), 3) := by decide +kernel
theorem dX10_likes_132 : decode cX10_likes 132 = .ok (.iload 6, 2) := by decide +kernel
theorem dX10_likes_134 : decode cX10_likes 134 = .ok (.ireturn, 1) := by decide +kernel
theorem dX10_say_0 : decode cX10_say 0 = .ok (.iload_n 1, 1) := by decide +kernel
theorem dX10_say_1 : decode cX10_say 1 = .ok (.bipush 33, 2) := by decide +kernel
theorem dX10_say_3 : decode cX10_say 3 = .ok (.bipush 126, 2) := by decide +kernel
theorem dX10_say_5 : decode cX10_say 5 = .ok (.invokestatic 62, 3) := by decide +kernel
theorem dX10_say_8 : decode cX10_say 8 = .ok (.ifCond .ne 6, 3) := by decide +kernel
theorem dX10_say_11 : decode cX10_say 11 = .ok (.bipush (-2), 2) := by decide +kernel
theorem dX10_say_13 : decode cX10_say 13 = .ok (.ireturn, 1) := by decide +kernel
theorem dX10_say_14 : decode cX10_say 14 = .ok (.aload_n 0, 1) := by decide +kernel
theorem dX10_say_15 : decode cX10_say 15 = .ok (.getfield 81, 3) := by decide +kernel
theorem dX10_say_18 : decode cX10_say 18 = .ok (.bipush 60, 2) := by decide +kernel
theorem dX10_say_20 : decode cX10_say 20 = .ok (.if_icmp .ne 6, 3) := by decide +kernel
theorem dX10_say_23 : decode cX10_say 23 = .ok (.bipush (-4), 2) := by decide +kernel
theorem dX10_say_25 : decode cX10_say 25 = .ok (.ireturn, 1) := by decide +kernel
theorem dX10_say_26 : decode cX10_say 26 = .ok (.aload_n 0, 1) := by decide +kernel
theorem dX10_say_27 : decode cX10_say 27 = .ok (.getfield 25, 3) := by decide +kernel
theorem dX10_say_30 : decode cX10_say 30 = .ok (.aload_n 0, 1) := by decide +kernel
theorem dX10_say_31 : decode cX10_say 31 = .ok (.getfield 81, 3) := by decide +kernel
theorem dX10_say_34 : decode cX10_say 34 = .ok (.iload_n 1, 1) := by decide +kernel
theorem dX10_say_35 : decode cX10_say 35 = .ok (.iastore, 1) := by decide +kernel
theorem dX10_say_36 : decode cX10_say 36 = .ok (.aload_n 0, 1) := by decide +kernel
theorem dX10_say_37 : decode cX10_say 37 = .ok (.dup, 1) := by decide +kernel
theorem dX10_say_38 : decode cX10_say 38 = .ok (.getfield 81, 3) := by decide +kernel
theorem dX10_say_41 : decode cX10_say 41 = .ok (.iconst 1, 1) := by decide +kernel
theorem dX10_say_42 : decode cX10_say 42 = .ok (.iadd, 1) := by decide +kernel
theorem dX10_say_43 : decode cX10_say 43 = .ok (.putfield 81, 3) := by decide +kernel
theorem dX10_say_46 : decode cX10_say 46 = .ok (.aload_n 0, 1) := by decide +kernel
theorem dX10_say_47 : decode cX10_say 47 = .ok (.getfield 81, 3) := by decide +kernel
theorem dX10_say_50 : decode cX10_say 50 = .ok (.ireturn, 1) := by decide +kernel
theorem dX10_wipe_0 : decode cX10_wipe 0 = .ok (.aload_n 0, 1) := by decide +kernel
theorem dX10_wipe_1 : decode cX10_wipe 1 = .ok (.getfield 81, 3) := by decide +kernel
theorem dX10_wipe_4 : decode cX10_wipe 4 = .ok (.istore_n 1, 1) := by decide +kernel
theorem dX10_wipe_5 : decode cX10_wipe 5 = .ok (.aload_n 0, 1) := by decide +kernel
theorem dX10_wipe_6 : decode cX10_wipe 6 = .ok (.iconst 0, 1) := by decide +kernel
theorem dX10_wipe_7 : decode cX10_wipe 7 = .ok (.putfield 81, 3) := by decide +kernel
theorem dX10_wipe_10 : decode cX10_wipe 10 = .ok (.iload_n 1, 1) := by decide +kernel
theorem dX10_wipe_11 : decode cX10_wipe 11 = .ok (.ireturn, 1) := by decide +kernel
theorem dX10_step_0 : decode cX10_step 0 = .ok (.iload_n 1, 1) := by decide +kernel
theorem dX10_step_1 : decode cX10_step 1 = .ok (.bipush 97, 2) := by decide +kernel
theorem dX10_step_3 : decode cX10_step 3 = .ok (.bipush 103, 2) := by decide +kernel
theorem dX10_step_5 : decode cX10_step 5 = .ok (.invokestatic 62, 3) := by decide +kernel
theorem dX10_step_8 : decode cX10_step 8 = .ok (.istore_n 2, 1) := by decide +kernel
theorem dX10_step_9 : decode cX10_step 9 = .ok (.iload_n 0, 1) := by decide +kernel
theorem dX10_step_10 : decode cX10_step 10 = .ok (.tableswitch 102 0 2 #[26, 64, 91], 26) := by decide +kernel
theorem dX10_step_36 : decode cX10_step 36 = .ok (.iload_n 1, 1) := by decide +kernel
theorem dX10_step_37 : decode cX10_step 37 = .ok (.bipush 65, 2) := by decide +kernel
theorem dX10_step_39 : decode cX10_step 39 = .ok (.bipush 71, 2) := by decide +kernel
theorem dX10_step_41 : decode cX10_step 41 = .ok (.invokestatic 62, 3) := by decide +kernel
theorem dX10_step_44 : decode cX10_step 44 = .ok (.ifCond .eq 7, 3) := by decide +kernel
theorem dX10_step_47 : decode cX10_step 47 = .ok (.iconst 1, 1) := by decide +kernel
theorem dX10_step_48 : decode cX10_step 48 = .ok (.goto 25, 3) := by decide +kernel
theorem dX10_step_51 : decode cX10_step 51 = .ok (.iload_n 1, 1) := by decide +kernel
theorem dX10_step_52 : decode cX10_step 52 = .ok (.bipush 119, 2) := by decide +kernel
theorem dX10_step_54 : decode cX10_step 54 = .ok (.if_icmp .ne 7, 3) := by decide +kernel
theorem dX10_step_57 : decode cX10_step 57 = .ok (.iconst 3, 1) := by decide +kernel
theorem dX10_step_58 : decode cX10_step 58 = .ok (.goto 15, 3) := by decide +kernel
theorem dX10_step_61 : decode cX10_step 61 = .ok (.iload_n 1, 1) := by decide +kernel
theorem dX10_step_62 : decode cX10_step 62 = .ok (.bipush 46, 2) := by decide +kernel
theorem dX10_step_64 : decode cX10_step 64 = .ok (.if_icmp .ne 7, 3) := by decide +kernel
theorem dX10_step_67 : decode cX10_step 67 = .ok (.iconst 0, 1) := by decide +kernel
theorem dX10_step_68 : decode cX10_step 68 = .ok (.goto 5, 3) := by decide +kernel
theorem dX10_step_71 : decode cX10_step 71 = .ok (.bipush (-6), 2) := by decide +kernel
theorem dX10_step_73 : decode cX10_step 73 = .ok (.ireturn, 1) := by decide +kernel
theorem dX10_step_74 : decode cX10_step 74 = .ok (.iload_n 2, 1) := by decide +kernel
theorem dX10_step_75 : decode cX10_step 75 = .ok (.ifCond .ne 9, 3) := by decide +kernel
theorem dX10_step_78 : decode cX10_step 78 = .ok (.iload_n 1, 1) := by decide +kernel
theorem dX10_step_79 : decode cX10_step 79 = .ok (.bipush 42, 2) := by decide +kernel
theorem dX10_step_81 : decode cX10_step 81 = .ok (.if_icmp .ne 7, 3) := by decide +kernel
theorem dX10_step_84 : decode cX10_step 84 = .ok (.iconst 0, 1) := by decide +kernel
theorem dX10_step_85 : decode cX10_step 85 = .ok (.goto 15, 3) := by decide +kernel
theorem dX10_step_88 : decode cX10_step 88 = .ok (.iload_n 1, 1) := by decide +kernel
theorem dX10_step_89 : decode cX10_step 89 = .ok (.bipush 33, 2) := by decide +kernel
theorem dX10_step_91 : decode cX10_step 91 = .ok (.if_icmp .ne 7, 3) := by decide +kernel
theorem dX10_step_94 : decode cX10_step 94 = .ok (.iconst 2, 1) := by decide +kernel
theorem dX10_step_95 : decode cX10_step 95 = .ok (.goto 5, 3) := by decide +kernel
theorem dX10_step_98 : decode cX10_step 98 = .ok (.bipush (-6), 2) := by decide +kernel
theorem dX10_step_100 : decode cX10_step 100 = .ok (.ireturn, 1) := by decide +kernel
theorem dX10_step_101 : decode cX10_step 101 = .ok (.iload_n 2, 1) := by decide +kernel
theorem dX10_step_102 : decode cX10_step 102 = .ok (.ifCond .eq 7, 3) := by decide +kernel
theorem dX10_step_105 : decode cX10_step 105 = .ok (.iconst 0, 1) := by decide +kernel
theorem dX10_step_106 : decode cX10_step 106 = .ok (.goto 5, 3) := by decide +kernel
theorem dX10_step_109 : decode cX10_step 109 = .ok (.bipush (-6), 2) := by decide +kernel
theorem dX10_step_111 : decode cX10_step 111 = .ok (.ireturn, 1) := by decide +kernel
theorem dX10_step_112 : decode cX10_step 112 = .ok (.iload_n 1, 1) := by decide +kernel
theorem dX10_step_113 : decode cX10_step 113 = .ok (.bipush 49, 2) := by decide +kernel
theorem dX10_step_115 : decode cX10_step 115 = .ok (.bipush 57, 2) := by decide +kernel
theorem dX10_step_117 : decode cX10_step 117 = .ok (.invokestatic 62, 3) := by decide +kernel
theorem dX10_step_120 : decode cX10_step 120 = .ok (.ifCond .eq 7, 3) := by decide +kernel
theorem dX10_step_123 : decode cX10_step 123 = .ok (.iconst 0, 1) := by decide +kernel
theorem dX10_step_124 : decode cX10_step 124 = .ok (.goto 5, 3) := by decide +kernel
theorem dX10_step_127 : decode cX10_step 127 = .ok (.bipush (-6), 2) := by decide +kernel
theorem dX10_step_129 : decode cX10_step 129 = .ok (.ireturn, 1) := by decide +kernel
theorem dX10_faultOf_0 : decode cX10_faultOf 0 = .ok (.iconst 0, 1) := by decide +kernel
theorem dX10_faultOf_1 : decode cX10_faultOf 1 = .ok (.istore_n 1, 1) := by decide +kernel
theorem dX10_faultOf_2 : decode cX10_faultOf 2 = .ok (.iconst 0, 1) := by decide +kernel
theorem dX10_faultOf_3 : decode cX10_faultOf 3 = .ok (.istore_n 2, 1) := by decide +kernel
theorem dX10_faultOf_4 : decode cX10_faultOf 4 = .ok (.iload_n 2, 1) := by decide +kernel
theorem dX10_faultOf_5 : decode cX10_faultOf 5 = .ok (.aload_n 0, 1) := by decide +kernel
theorem dX10_faultOf_6 : decode cX10_faultOf 6 = .ok (.getfield 81, 3) := by decide +kernel
theorem dX10_faultOf_9 : decode cX10_faultOf 9 = .ok (.if_icmp .ge 26, 3) := by decide +kernel
theorem dX10_faultOf_12 : decode cX10_faultOf 12 = .ok (.iload_n 1, 1) := by decide +kernel
theorem dX10_faultOf_13 : decode cX10_faultOf 13 = .ok (.aload_n 0, 1) := by decide +kernel
theorem dX10_faultOf_14 : decode cX10_faultOf 14 = .ok (.getfield 25, 3) := by decide +kernel
theorem dX10_faultOf_17 : decode cX10_faultOf 17 = .ok (.iload_n 2, 1) := by decide +kernel
theorem dX10_faultOf_18 : decode cX10_faultOf 18 = .ok (.iaload, 1) := by decide +kernel
theorem dX10_faultOf_19 : decode cX10_faultOf 19 = .ok (.invokestatic 85, 3) := by decide +kernel
theorem dX10_faultOf_22 : decode cX10_faultOf 22 = .ok (.istore_n 1, 1) := by decide +kernel
theorem dX10_faultOf_23 : decode cX10_faultOf 23 = .ok (.iload_n 1, 1) := by decide +kernel
theorem dX10_faultOf_24 : decode cX10_faultOf 24 = .ok (.ifCond .ge 5, 3) := by decide +kernel
theorem dX10_faultOf_27 : decode cX10_faultOf 27 = .ok (.iload_n 2, 1) := by decide +kernel
theorem dX10_faultOf_28 : decode cX10_faultOf 28 = .ok (.ireturn, 1) := by decide +kernel
theorem dX10_faultOf_29 : decode cX10_faultOf 29 = .ok (.iinc 2 1, 3) := by decide +kernel
theorem dX10_faultOf_32 : decode cX10_faultOf 32 = .ok (.goto (-28), 3) := by decide +kernel
theorem dX10_faultOf_35 : decode cX10_faultOf 35 = .ok (.iload_n 1, 1) := by decide +kernel
theorem dX10_faultOf_36 : decode cX10_faultOf 36 = .ok (.ifCond .ne 8, 3) := by decide +kernel
theorem dX10_faultOf_39 : decode cX10_faultOf 39 = .ok (.bipush (-6), 2) := by decide +kernel
theorem dX10_faultOf_41 : decode cX10_faultOf 41 = .ok (.goto 7, 3) := by decide +kernel
theorem dX10_faultOf_44 : decode cX10_faultOf 44 = .ok (.aload_n 0, 1) := by decide +kernel
theorem dX10_faultOf_45 : decode cX10_faultOf 45 = .ok (.getfield 81, 3) := by decide +kernel
theorem dX10_faultOf_48 : decode cX10_faultOf 48 = .ok (.ireturn, 1) := by decide +kernel
theorem dX10_fault_0 : decode cX10_fault 0 = .ok (.aload_n 0, 1) := by decide +kernel
theorem dX10_fault_1 : decode cX10_fault 1 = .ok (.invokevirtual 88, 3) := by decide +kernel
theorem dX10_fault_4 : decode cX10_fault 4 = .ok (.ireturn, 1) := by decide +kernel
theorem dX10_asNow_0 : decode cX10_asNow 0 = .ok (.iconst 0, 1) := by decide +kernel
theorem dX10_asNow_1 : decode cX10_asNow 1 = .ok (.istore_n 1, 1) := by decide +kernel
theorem dX10_asNow_2 : decode cX10_asNow 2 = .ok (.iload_n 1, 1) := by decide +kernel
theorem dX10_asNow_3 : decode cX10_asNow 3 = .ok (.bipush 64, 2) := by decide +kernel
theorem dX10_asNow_5 : decode cX10_asNow 5 = .ok (.if_icmp .ge 21, 3) := by decide +kernel
theorem dX10_asNow_8 : decode cX10_asNow 8 = .ok (.aload_n 0, 1) := by decide +kernel
theorem dX10_asNow_9 : decode cX10_asNow 9 = .ok (.getfield 13, 3) := by decide +kernel
theorem dX10_asNow_12 : decode cX10_asNow 12 = .ok (.iload_n 1, 1) := by decide +kernel
theorem dX10_asNow_13 : decode cX10_asNow 13 = .ok (.aload_n 0, 1) := by decide +kernel
theorem dX10_asNow_14 : decode cX10_asNow 14 = .ok (.getfield 7, 3) := by decide +kernel
theorem dX10_asNow_17 : decode cX10_asNow 17 = .ok (.iload_n 1, 1) := by decide +kernel
theorem dX10_asNow_18 : decode cX10_asNow 18 = .ok (.iaload, 1) := by decide +kernel
theorem dX10_asNow_19 : decode cX10_asNow 19 = .ok (.iastore, 1) := by decide +kernel
theorem dX10_asNow_20 : decode cX10_asNow 20 = .ok (.iinc 1 1, 3) := by decide +kernel
theorem dX10_asNow_23 : decode cX10_asNow 23 = .ok (.goto (-21), 3) := by decide +kernel
theorem dX10_asNow_26 : decode cX10_asNow 26 = .ok (.aload_n 0, 1) := by decide +kernel
theorem dX10_asNow_27 : decode cX10_asNow 27 = .ok (.iconst 0, 1) := by decide +kernel
theorem dX10_asNow_28 : decode cX10_asNow 28 = .ok (.putfield 92, 3) := by decide +kernel
theorem dX10_asNow_31 : decode cX10_asNow 31 = .ok (.aload_n 0, 1) := by decide +kernel
theorem dX10_asNow_32 : decode cX10_asNow 32 = .ok (.bipush (-6), 2) := by decide +kernel
theorem dX10_asNow_34 : decode cX10_asNow 34 = .ok (.putfield 95, 3) := by decide +kernel
theorem dX10_asNow_37 : decode cX10_asNow 37 = .ok (.aload_n 0, 1) := by decide +kernel
theorem dX10_asNow_38 : decode cX10_asNow 38 = .ok (.bipush (-6), 2) := by decide +kernel
theorem dX10_asNow_40 : decode cX10_asNow 40 = .ok (.putfield 98, 3) := by decide +kernel
theorem dX10_asNow_43 : decode cX10_asNow 43 = .ok (.return_, 1) := by decide +kernel
theorem dX10_palesOf_0 : decode cX10_palesOf 0 = .ok (.iconst 0, 1) := by decide +kernel
theorem dX10_palesOf_1 : decode cX10_palesOf 1 = .ok (.istore_n 2, 1) := by decide +kernel
theorem dX10_palesOf_2 : decode cX10_palesOf 2 = .ok (.iconst 0, 1) := by decide +kernel
theorem dX10_palesOf_3 : decode cX10_palesOf 3 = .ok (.istore_n 3, 1) := by decide +kernel
theorem dX10_palesOf_4 : decode cX10_palesOf 4 = .ok (.iload_n 3, 1) := by decide +kernel
theorem dX10_palesOf_5 : decode cX10_palesOf 5 = .ok (.bipush 49, 2) := by decide +kernel
theorem dX10_palesOf_7 : decode cX10_palesOf 7 = .ok (.if_icmp .ge 31, 3) := by decide +kernel
theorem dX10_palesOf_10 : decode cX10_palesOf 10 = .ok (.iload_n 2, 1) := by decide +kernel
theorem dX10_palesOf_11 : decode cX10_palesOf 11 = .ok (.aload_n 0, 1) := by decide +kernel
theorem dX10_palesOf_12 : decode cX10_palesOf 12 = .ok (.getfield 13, 3) := by decide +kernel
theorem dX10_palesOf_15 : decode cX10_palesOf 15 = .ok (.iload_n 3, 1) := by decide +kernel
theorem dX10_palesOf_16 : decode cX10_palesOf 16 = .ok (.iaload, 1) := by decide +kernel
theorem dX10_palesOf_17 : decode cX10_palesOf 17 = .ok (.iconst 0, 1) := by decide +kernel
theorem dX10_palesOf_18 : decode cX10_palesOf 18 = .ok (.iload_n 1, 1) := by decide +kernel
theorem dX10_palesOf_19 : decode cX10_palesOf 19 = .ok (.invokestatic 62, 3) := by decide +kernel
theorem dX10_palesOf_22 : decode cX10_palesOf 22 = .ok (.ifCond .eq 7, 3) := by decide +kernel
theorem dX10_palesOf_25 : decode cX10_palesOf 25 = .ok (.iconst 1, 1) := by decide +kernel
theorem dX10_palesOf_26 : decode cX10_palesOf 26 = .ok (.goto 4, 3) := by decide +kernel
theorem dX10_palesOf_29 : decode cX10_palesOf 29 = .ok (.iconst 0, 1) := by decide +kernel
theorem dX10_palesOf_30 : decode cX10_palesOf 30 = .ok (.iadd, 1) := by decide +kernel
theorem dX10_palesOf_31 : decode cX10_palesOf 31 = .ok (.istore_n 2, 1) := by decide +kernel
theorem dX10_palesOf_32 : decode cX10_palesOf 32 = .ok (.iinc 3 1, 3) := by decide +kernel
theorem dX10_palesOf_35 : decode cX10_palesOf 35 = .ok (.goto (-31), 3) := by decide +kernel
theorem dX10_palesOf_38 : decode cX10_palesOf 38 = .ok (.iload_n 2, 1) := by decide +kernel
theorem dX10_palesOf_39 : decode cX10_palesOf 39 = .ok (.iconst 2, 1) := by decide +kernel
theorem dX10_palesOf_40 : decode cX10_palesOf 40 = .ok (.idiv, 1) := by decide +kernel
theorem dX10_palesOf_41 : decode cX10_palesOf 41 = .ok (.ireturn, 1) := by decide +kernel
theorem dX10_away_0 : decode cX10_away 0 = .ok (.iconst 0, 1) := by decide +kernel
theorem dX10_away_1 : decode cX10_away 1 = .ok (.istore_n 1, 1) := by decide +kernel
theorem dX10_away_2 : decode cX10_away 2 = .ok (.iconst 0, 1) := by decide +kernel
theorem dX10_away_3 : decode cX10_away 3 = .ok (.istore_n 2, 1) := by decide +kernel
theorem dX10_away_4 : decode cX10_away 4 = .ok (.iload_n 2, 1) := by decide +kernel
theorem dX10_away_5 : decode cX10_away 5 = .ok (.bipush 7, 2) := by decide +kernel
theorem dX10_away_7 : decode cX10_away 7 = .ok (.if_icmp .ge 32, 3) := by decide +kernel
theorem dX10_away_10 : decode cX10_away 10 = .ok (.iload_n 1, 1) := by decide +kernel
theorem dX10_away_11 : decode cX10_away 11 = .ok (.aload_n 0, 1) := by decide +kernel
theorem dX10_away_12 : decode cX10_away 12 = .ok (.getfield 13, 3) := by decide +kernel
theorem dX10_away_15 : decode cX10_away 15 = .ok (.bipush 49, 2) := by decide +kernel
theorem dX10_away_17 : decode cX10_away 17 = .ok (.iload_n 2, 1) := by decide +kernel
theorem dX10_away_18 : decode cX10_away 18 = .ok (.iadd, 1) := by decide +kernel
theorem dX10_away_19 : decode cX10_away 19 = .ok (.iaload, 1) := by decide +kernel
theorem dX10_away_20 : decode cX10_away 20 = .ok (.iload_n 2, 1) := by decide +kernel
theorem dX10_away_21 : decode cX10_away 21 = .ok (.if_icmp .ne 7, 3) := by decide +kernel
theorem dX10_away_24 : decode cX10_away 24 = .ok (.iconst 0, 1) := by decide +kernel
theorem dX10_away_25 : decode cX10_away 25 = .ok (.goto 6, 3) := by decide +kernel
theorem dX10_away_28 : decode cX10_away 28 = .ok (.iconst 1, 1) := by decide +kernel
theorem dX10_away_29 : decode cX10_away 29 = .ok (.iload_n 2, 1) := by decide +kernel
theorem dX10_away_30 : decode cX10_away 30 = .ok (.ishl, 1) := by decide +kernel
theorem dX10_away_31 : decode cX10_away 31 = .ok (.ior, 1) := by decide +kernel
theorem dX10_away_32 : decode cX10_away 32 = .ok (.istore_n 1, 1) := by decide +kernel
theorem dX10_away_33 : decode cX10_away 33 = .ok (.iinc 2 1, 3) := by decide +kernel
theorem dX10_away_36 : decode cX10_away 36 = .ok (.goto (-32), 3) := by decide +kernel
theorem dX10_away_39 : decode cX10_away 39 = .ok (.iload_n 1, 1) := by decide +kernel
theorem dX10_away_40 : decode cX10_away 40 = .ok (.ireturn, 1) := by decide +kernel
theorem dX10_lay_0 : decode cX10_lay 0 = .ok (.aload_n 0, 1) := by decide +kernel
theorem dX10_lay_1 : decode cX10_lay 1 = .ok (.getfield 13, 3) := by decide +kernel
theorem dX10_lay_4 : decode cX10_lay 4 = .ok (.bipush 7, 2) := by decide +kernel
theorem dX10_lay_6 : decode cX10_lay 6 = .ok (.iload_n 1, 1) := by decide +kernel
theorem dX10_lay_7 : decode cX10_lay 7 = .ok (.imul, 1) := by decide +kernel
theorem dX10_lay_8 : decode cX10_lay 8 = .ok (.iload_n 2, 1) := by decide +kernel
theorem dX10_lay_9 : decode cX10_lay 9 = .ok (.iadd, 1) := by decide +kernel
theorem dX10_lay_10 : decode cX10_lay 10 = .ok (.iload_n 3, 1) := by decide +kernel
theorem dX10_lay_11 : decode cX10_lay 11 = .ok (.iastore, 1) := by decide +kernel
theorem dX10_lay_12 : decode cX10_lay 12 = .ok (.aload_n 0, 1) := by decide +kernel
theorem dX10_lay_13 : decode cX10_lay 13 = .ok (.getfield 13, 3) := by decide +kernel
theorem dX10_lay_16 : decode cX10_lay 16 = .ok (.bipush 7, 2) := by decide +kernel
theorem dX10_lay_18 : decode cX10_lay 18 = .ok (.iload_n 2, 1) := by decide +kernel
theorem dX10_lay_19 : decode cX10_lay 19 = .ok (.imul, 1) := by decide +kernel
theorem dX10_lay_20 : decode cX10_lay 20 = .ok (.iload_n 1, 1) := by decide +kernel
theorem dX10_lay_21 : decode cX10_lay 21 = .ok (.iadd, 1) := by decide +kernel
theorem dX10_lay_22 : decode cX10_lay 22 = .ok (.iload_n 3, 1) := by decide +kernel
theorem dX10_lay_23 : decode cX10_lay 23 = .ok (.iastore, 1) := by decide +kernel
theorem dX10_lay_24 : decode cX10_lay 24 = .ok (.return_, 1) := by decide +kernel
theorem dX10_go_0 : decode cX10_go 0 = .ok (.aload_n 0, 1) := by decide +kernel
theorem dX10_go_1 : decode cX10_go 1 = .ok (.getfield 13, 3) := by decide +kernel
theorem dX10_go_4 : decode cX10_go 4 = .ok (.bipush 49, 2) := by decide +kernel
theorem dX10_go_6 : decode cX10_go 6 = .ok (.iload_n 1, 1) := by decide +kernel
theorem dX10_go_7 : decode cX10_go 7 = .ok (.iadd, 1) := by decide +kernel
theorem dX10_go_8 : decode cX10_go 8 = .ok (.iaload, 1) := by decide +kernel
theorem dX10_go_9 : decode cX10_go 9 = .ok (.istore_n 3, 1) := by decide +kernel
theorem dX10_go_10 : decode cX10_go 10 = .ok (.iload_n 3, 1) := by decide +kernel
theorem dX10_go_11 : decode cX10_go 11 = .ok (.iload_n 2, 1) := by decide +kernel
theorem dX10_go_12 : decode cX10_go 12 = .ok (.if_icmp .ne 5, 3) := by decide +kernel
theorem dX10_go_15 : decode cX10_go 15 = .ok (.iconst 1, 1) := by decide +kernel
theorem dX10_go_16 : decode cX10_go 16 = .ok (.ireturn, 1) := by decide +kernel
theorem dX10_go_17 : decode cX10_go 17 = .ok (.aload_n 0, 1) := by decide +kernel
theorem dX10_go_18 : decode cX10_go 18 = .ok (.getfield 16, 3) := by decide +kernel
theorem dX10_go_21 : decode cX10_go 21 = .ok (.bipush 7, 2) := by decide +kernel
theorem dX10_go_23 : decode cX10_go 23 = .ok (.iload_n 3, 1) := by decide +kernel
theorem dX10_go_24 : decode cX10_go 24 = .ok (.imul, 1) := by decide +kernel
theorem dX10_go_25 : decode cX10_go 25 = .ok (.iload_n 2, 1) := by decide +kernel
theorem dX10_go_26 : decode cX10_go 26 = .ok (.iadd, 1) := by decide +kernel
theorem dX10_go_27 : decode cX10_go 27 = .ok (.iaload, 1) := by decide +kernel
theorem dX10_go_28 : decode cX10_go 28 = .ok (.ifCond .ne 5, 3) := by decide +kernel
theorem dX10_go_31 : decode cX10_go 31 = .ok (.iconst 2, 1) := by decide +kernel
theorem dX10_go_32 : decode cX10_go 32 = .ok (.ireturn, 1) := by decide +kernel
theorem dX10_go_33 : decode cX10_go 33 = .ok (.aload_n 0, 1) := by decide +kernel
theorem dX10_go_34 : decode cX10_go 34 = .ok (.dup, 1) := by decide +kernel
theorem dX10_go_35 : decode cX10_go 35 = .ok (.getfield 92, 3) := by decide +kernel
theorem dX10_go_38 : decode cX10_go 38 = .ok (.aload_n 0, 1) := by decide +kernel
theorem dX10_go_39 : decode cX10_go 39 = .ok (.getfield 16, 3) := by decide +kernel
theorem dX10_go_42 : decode cX10_go 42 = .ok (.bipush 7, 2) := by decide +kernel
theorem dX10_go_44 : decode cX10_go 44 = .ok (.iload_n 3, 1) := by decide +kernel
theorem dX10_go_45 : decode cX10_go 45 = .ok (.imul, 1) := by decide +kernel
theorem dX10_go_46 : decode cX10_go 46 = .ok (.iload_n 2, 1) := by decide +kernel
theorem dX10_go_47 : decode cX10_go 47 = .ok (.iadd, 1) := by decide +kernel
theorem dX10_go_48 : decode cX10_go 48 = .ok (.iaload, 1) := by decide +kernel
theorem dX10_go_49 : decode cX10_go 49 = .ok (.iadd, 1) := by decide +kernel
theorem dX10_go_50 : decode cX10_go 50 = .ok (.putfield 92, 3) := by decide +kernel
theorem dX10_go_53 : decode cX10_go 53 = .ok (.aload_n 0, 1) := by decide +kernel
theorem dX10_go_54 : decode cX10_go 54 = .ok (.getfield 13, 3) := by decide +kernel
theorem dX10_go_57 : decode cX10_go 57 = .ok (.bipush 49, 2) := by decide +kernel
theorem dX10_go_59 : decode cX10_go 59 = .ok (.iload_n 1, 1) := by decide +kernel
theorem dX10_go_60 : decode cX10_go 60 = .ok (.iadd, 1) := by decide +kernel
theorem dX10_go_61 : decode cX10_go 61 = .ok (.iload_n 2, 1) := by decide +kernel
theorem dX10_go_62 : decode cX10_go 62 = .ok (.iastore, 1) := by decide +kernel
theorem dX10_go_63 : decode cX10_go 63 = .ok (.iconst 0, 1) := by decide +kernel
theorem dX10_go_64 : decode cX10_go 64 = .ok (.ireturn, 1) := by decide +kernel
theorem dX10_mend_0 : decode cX10_mend 0 = .ok (.aload_n 0, 1) := by decide +kernel
theorem dX10_mend_1 : decode cX10_mend 1 = .ok (.getfield 13, 3) := by decide +kernel
theorem dX10_mend_4 : decode cX10_mend 4 = .ok (.bipush 49, 2) := by decide +kernel
theorem dX10_mend_6 : decode cX10_mend 6 = .ok (.iload_n 1, 1) := by decide +kernel
theorem dX10_mend_7 : decode cX10_mend 7 = .ok (.iadd, 1) := by decide +kernel
theorem dX10_mend_8 : decode cX10_mend 8 = .ok (.iaload, 1) := by decide +kernel
theorem dX10_mend_9 : decode cX10_mend 9 = .ok (.istore_n 2, 1) := by decide +kernel
theorem dX10_mend_10 : decode cX10_mend 10 = .ok (.aload_n 0, 1) := by decide +kernel
theorem dX10_mend_11 : decode cX10_mend 11 = .ok (.getfield 13, 3) := by decide +kernel
theorem dX10_mend_14 : decode cX10_mend 14 = .ok (.bipush 7, 2) := by decide +kernel
theorem dX10_mend_16 : decode cX10_mend 16 = .ok (.iload_n 1, 1) := by decide +kernel
theorem dX10_mend_17 : decode cX10_mend 17 = .ok (.imul, 1) := by decide +kernel
theorem dX10_mend_18 : decode cX10_mend 18 = .ok (.iload_n 2, 1) := by decide +kernel
theorem dX10_mend_19 : decode cX10_mend 19 = .ok (.iadd, 1) := by decide +kernel
theorem dX10_mend_20 : decode cX10_mend 20 = .ok (.iaload, 1) := by decide +kernel
theorem dX10_mend_21 : decode cX10_mend 21 = .ok (.istore_n 3, 1) := by decide +kernel
theorem dX10_mend_22 : decode cX10_mend 22 = .ok (.iload_n 2, 1) := by decide +kernel
theorem dX10_mend_23 : decode cX10_mend 23 = .ok (.iload_n 1, 1) := by decide +kernel
theorem dX10_mend_24 : decode cX10_mend 24 = .ok (.if_icmp .ne 5, 3) := by decide +kernel
theorem dX10_mend_27 : decode cX10_mend 27 = .ok (.iconst 3, 1) := by decide +kernel
theorem dX10_mend_28 : decode cX10_mend 28 = .ok (.ireturn, 1) := by decide +kernel
theorem dX10_mend_29 : decode cX10_mend 29 = .ok (.iload_n 3, 1) := by decide +kernel
theorem dX10_mend_30 : decode cX10_mend 30 = .ok (.ifCond .ge 5, 3) := by decide +kernel
theorem dX10_mend_33 : decode cX10_mend 33 = .ok (.iconst 4, 1) := by decide +kernel
theorem dX10_mend_34 : decode cX10_mend 34 = .ok (.ireturn, 1) := by decide +kernel
theorem dX10_mend_35 : decode cX10_mend 35 = .ok (.iload_n 3, 1) := by decide +kernel
theorem dX10_mend_36 : decode cX10_mend 36 = .ok (.bipush 9, 2) := by decide +kernel
theorem dX10_mend_38 : decode cX10_mend 38 = .ok (.if_icmp .ne 5, 3) := by decide +kernel
theorem dX10_mend_41 : decode cX10_mend 41 = .ok (.iconst 5, 1) := by decide +kernel
theorem dX10_mend_42 : decode cX10_mend 42 = .ok (.ireturn, 1) := by decide +kernel
theorem dX10_mend_43 : decode cX10_mend 43 = .ok (.aload_n 0, 1) := by decide +kernel
theorem dX10_mend_44 : decode cX10_mend 44 = .ok (.iload_n 1, 1) := by decide +kernel
theorem dX10_mend_45 : decode cX10_mend 45 = .ok (.iload_n 2, 1) := by decide +kernel
theorem dX10_mend_46 : decode cX10_mend 46 = .ok (.iload_n 3, 1) := by decide +kernel
theorem dX10_mend_47 : decode cX10_mend 47 = .ok (.bipush 6, 2) := by decide +kernel
theorem dX10_mend_49 : decode cX10_mend 49 = .ok (.if_icmp .le 8, 3) := by decide +kernel
theorem dX10_mend_52 : decode cX10_mend 52 = .ok (.bipush 9, 2) := by decide +kernel
theorem dX10_mend_54 : decode cX10_mend 54 = .ok (.goto 6, 3) := by decide +kernel
theorem dX10_mend_57 : decode cX10_mend 57 = .ok (.iload_n 3, 1) := by decide +kernel
theorem dX10_mend_58 : decode cX10_mend 58 = .ok (.iconst 3, 1) := by decide +kernel
theorem dX10_mend_59 : decode cX10_mend 59 = .ok (.iadd, 1) := by decide +kernel
theorem dX10_mend_60 : decode cX10_mend 60 = .ok (.invokevirtual 101, 3) := by decide +kernel
theorem dX10_mend_63 : decode cX10_mend 63 = .ok (.iconst 0, 1) := by decide +kernel
theorem dX10_mend_64 : decode cX10_mend 64 = .ok (.ireturn, 1) := by decide +kernel
theorem dX10_split_0 : decode cX10_split 0 = .ok (.aload_n 0, 1) := by decide +kernel
theorem dX10_split_1 : decode cX10_split 1 = .ok (.getfield 13, 3) := by decide +kernel
theorem dX10_split_4 : decode cX10_split 4 = .ok (.bipush 7, 2) := by decide +kernel
theorem dX10_split_6 : decode cX10_split 6 = .ok (.iload_n 1, 1) := by decide +kernel
theorem dX10_split_7 : decode cX10_split 7 = .ok (.imul, 1) := by decide +kernel
theorem dX10_split_8 : decode cX10_split 8 = .ok (.iload_n 2, 1) := by decide +kernel
theorem dX10_split_9 : decode cX10_split 9 = .ok (.iadd, 1) := by decide +kernel
theorem dX10_split_10 : decode cX10_split 10 = .ok (.iaload, 1) := by decide +kernel
theorem dX10_split_11 : decode cX10_split 11 = .ok (.istore_n 3, 1) := by decide +kernel
theorem dX10_split_12 : decode cX10_split 12 = .ok (.aload_n 0, 1) := by decide +kernel
theorem dX10_split_13 : decode cX10_split 13 = .ok (.getfield 13, 3) := by decide +kernel
theorem dX10_split_16 : decode cX10_split 16 = .ok (.bipush 49, 2) := by decide +kernel
theorem dX10_split_18 : decode cX10_split 18 = .ok (.iload_n 1, 1) := by decide +kernel
theorem dX10_split_19 : decode cX10_split 19 = .ok (.iadd, 1) := by decide +kernel
theorem dX10_split_20 : decode cX10_split 20 = .ok (.iaload, 1) := by decide +kernel
theorem dX10_split_21 : decode cX10_split 21 = .ok (.iload_n 1, 1) := by decide +kernel
theorem dX10_split_22 : decode cX10_split 22 = .ok (.if_icmp .eq 5, 3) := by decide +kernel
theorem dX10_split_25 : decode cX10_split 25 = .ok (.iconst 3, 1) := by decide +kernel
theorem dX10_split_26 : decode cX10_split 26 = .ok (.ireturn, 1) := by decide +kernel
theorem dX10_split_27 : decode cX10_split 27 = .ok (.iload_n 3, 1) := by decide +kernel
theorem dX10_split_28 : decode cX10_split 28 = .ok (.ifCond .ge 5, 3) := by decide +kernel
theorem dX10_split_31 : decode cX10_split 31 = .ok (.iconst 4, 1) := by decide +kernel
theorem dX10_split_32 : decode cX10_split 32 = .ok (.ireturn, 1) := by decide +kernel
theorem dX10_split_33 : decode cX10_split 33 = .ok (.iload_n 3, 1) := by decide +kernel
theorem dX10_split_34 : decode cX10_split 34 = .ok (.ifCond .ne 5, 3) := by decide +kernel
theorem dX10_split_37 : decode cX10_split 37 = .ok (.iconst 5, 1) := by decide +kernel
theorem dX10_split_38 : decode cX10_split 38 = .ok (.ireturn, 1) := by decide +kernel
theorem dX10_split_39 : decode cX10_split 39 = .ok (.aload_n 0, 1) := by decide +kernel
theorem dX10_split_40 : decode cX10_split 40 = .ok (.iload_n 1, 1) := by decide +kernel
theorem dX10_split_41 : decode cX10_split 41 = .ok (.iload_n 2, 1) := by decide +kernel
theorem dX10_split_42 : decode cX10_split 42 = .ok (.iload_n 3, 1) := by decide +kernel
theorem dX10_split_43 : decode cX10_split 43 = .ok (.iconst 2, 1) := by decide +kernel
theorem dX10_split_44 : decode cX10_split 44 = .ok (.idiv, 1) := by decide +kernel
theorem dX10_split_45 : decode cX10_split 45 = .ok (.invokevirtual 101, 3) := by decide +kernel
theorem dX10_split_48 : decode cX10_split 48 = .ok (.iconst 0, 1) := by decide +kernel
theorem dX10_split_49 : decode cX10_split 49 = .ok (.ireturn, 1) := by decide +kernel
theorem dX10_blow_0 : decode cX10_blow 0 = .ok (.aload_n 0, 1) := by decide +kernel
theorem dX10_blow_1 : decode cX10_blow 1 = .ok (.bipush 9, 2) := by decide +kernel
theorem dX10_blow_3 : decode cX10_blow 3 = .ok (.invokevirtual 73, 3) := by decide +kernel
theorem dX10_blow_6 : decode cX10_blow 6 = .ok (.ifCond .ne 6, 3) := by decide +kernel
theorem dX10_blow_9 : decode cX10_blow 9 = .ok (.bipush 6, 2) := by decide +kernel
theorem dX10_blow_11 : decode cX10_blow 11 = .ok (.ireturn, 1) := by decide +kernel
theorem dX10_blow_12 : decode cX10_blow 12 = .ok (.iconst 0, 1) := by decide +kernel
theorem dX10_blow_13 : decode cX10_blow 13 = .ok (.istore_n 2, 1) := by decide +kernel
theorem dX10_blow_14 : decode cX10_blow 14 = .ok (.iload_n 2, 1) := by decide +kernel
theorem dX10_blow_15 : decode cX10_blow 15 = .ok (.bipush 49, 2) := by decide +kernel
theorem dX10_blow_17 : decode cX10_blow 17 = .ok (.if_icmp .ge 55, 3) := by decide +kernel
theorem dX10_blow_20 : decode cX10_blow 20 = .ok (.aload_n 0, 1) := by decide +kernel
theorem dX10_blow_21 : decode cX10_blow 21 = .ok (.getfield 13, 3) := by decide +kernel
theorem dX10_blow_24 : decode cX10_blow 24 = .ok (.iload_n 2, 1) := by decide +kernel
theorem dX10_blow_25 : decode cX10_blow 25 = .ok (.aload_n 0, 1) := by decide +kernel
theorem dX10_blow_26 : decode cX10_blow 26 = .ok (.getfield 13, 3) := by decide +kernel
theorem dX10_blow_29 : decode cX10_blow 29 = .ok (.iload_n 2, 1) := by decide +kernel
theorem dX10_blow_30 : decode cX10_blow 30 = .ok (.iaload, 1) := by decide +kernel
theorem dX10_blow_31 : decode cX10_blow 31 = .ok (.ifCond .ge 12, 3) := by decide +kernel
theorem dX10_blow_34 : decode cX10_blow 34 = .ok (.aload_n 0, 1) := by decide +kernel
theorem dX10_blow_35 : decode cX10_blow 35 = .ok (.getfield 13, 3) := by decide +kernel
theorem dX10_blow_38 : decode cX10_blow 38 = .ok (.iload_n 2, 1) := by decide +kernel
theorem dX10_blow_39 : decode cX10_blow 39 = .ok (.iaload, 1) := by decide +kernel
theorem dX10_blow_40 : decode cX10_blow 40 = .ok (.goto 25, 3) := by decide +kernel
theorem dX10_blow_43 : decode cX10_blow 43 = .ok (.aload_n 0, 1) := by decide +kernel
theorem dX10_blow_44 : decode cX10_blow 44 = .ok (.getfield 13, 3) := by decide +kernel
theorem dX10_blow_47 : decode cX10_blow 47 = .ok (.iload_n 2, 1) := by decide +kernel
theorem dX10_blow_48 : decode cX10_blow 48 = .ok (.iaload, 1) := by decide +kernel
theorem dX10_blow_49 : decode cX10_blow 49 = .ok (.iload_n 1, 1) := by decide +kernel
theorem dX10_blow_50 : decode cX10_blow 50 = .ok (.if_icmp .le 14, 3) := by decide +kernel
theorem dX10_blow_53 : decode cX10_blow 53 = .ok (.aload_n 0, 1) := by decide +kernel
theorem dX10_blow_54 : decode cX10_blow 54 = .ok (.getfield 13, 3) := by decide +kernel
theorem dX10_blow_57 : decode cX10_blow 57 = .ok (.iload_n 2, 1) := by decide +kernel
theorem dX10_blow_58 : decode cX10_blow 58 = .ok (.iaload, 1) := by decide +kernel
theorem dX10_blow_59 : decode cX10_blow 59 = .ok (.iload_n 1, 1) := by decide +kernel
theorem dX10_blow_60 : decode cX10_blow 60 = .ok (.isub, 1) := by decide +kernel
theorem dX10_blow_61 : decode cX10_blow 61 = .ok (.goto 4, 3) := by decide +kernel
theorem dX10_blow_64 : decode cX10_blow 64 = .ok (.iconst 0, 1) := by decide +kernel
theorem dX10_blow_65 : decode cX10_blow 65 = .ok (.iastore, 1) := by decide +kernel
theorem dX10_blow_66 : decode cX10_blow 66 = .ok (.iinc 2 1, 3) := by decide +kernel
theorem dX10_blow_69 : decode cX10_blow 69 = .ok (.goto (-55), 3) := by decide +kernel
theorem dX10_blow_72 : decode cX10_blow 72 = .ok (.iconst 0, 1) := by decide +kernel
theorem dX10_blow_73 : decode cX10_blow 73 = .ok (.ireturn, 1) := by decide +kernel
theorem dX10_endDay_0 : decode cX10_endDay 0 = .ok (.aload_n 0, 1) := by decide +kernel
theorem dX10_endDay_1 : decode cX10_endDay 1 = .ok (.getfield 13, 3) := by decide +kernel
theorem dX10_endDay_4 : decode cX10_endDay 4 = .ok (.bipush 63, 2) := by decide +kernel
theorem dX10_endDay_6 : decode cX10_endDay 6 = .ok (.iaload, 1) := by decide +kernel
theorem dX10_endDay_7 : decode cX10_endDay 7 = .ok (.bipush 99, 2) := by decide +kernel
theorem dX10_endDay_9 : decode cX10_endDay 9 = .ok (.if_icmp .ne 6, 3) := by decide +kernel
theorem dX10_endDay_12 : decode cX10_endDay 12 = .ok (.bipush 7, 2) := by decide +kernel
theorem dX10_endDay_14 : decode cX10_endDay 14 = .ok (.ireturn, 1) := by decide +kernel
theorem dX10_endDay_15 : decode cX10_endDay 15 = .ok (.aload_n 0, 1) := by decide +kernel
theorem dX10_endDay_16 : decode cX10_endDay 16 = .ok (.getfield 13, 3) := by decide +kernel
theorem dX10_endDay_19 : decode cX10_endDay 19 = .ok (.bipush 63, 2) := by decide +kernel
theorem dX10_endDay_21 : decode cX10_endDay 21 = .ok (.dup2, 1) := by decide +kernel
theorem dX10_endDay_22 : decode cX10_endDay 22 = .ok (.iaload, 1) := by decide +kernel
theorem dX10_endDay_23 : decode cX10_endDay 23 = .ok (.iconst 1, 1) := by decide +kernel
theorem dX10_endDay_24 : decode cX10_endDay 24 = .ok (.iadd, 1) := by decide +kernel
theorem dX10_endDay_25 : decode cX10_endDay 25 = .ok (.iastore, 1) := by decide +kernel
theorem dX10_endDay_26 : decode cX10_endDay 26 = .ok (.iconst 0, 1) := by decide +kernel
theorem dX10_endDay_27 : decode cX10_endDay 27 = .ok (.istore_n 1, 1) := by decide +kernel
theorem dX10_endDay_28 : decode cX10_endDay 28 = .ok (.iload_n 1, 1) := by decide +kernel
theorem dX10_endDay_29 : decode cX10_endDay 29 = .ok (.bipush 49, 2) := by decide +kernel
theorem dX10_endDay_31 : decode cX10_endDay 31 = .ok (.if_icmp .ge 103, 3) := by decide +kernel
theorem dX10_endDay_34 : decode cX10_endDay 34 = .ok (.iload_n 1, 1) := by decide +kernel
theorem dX10_endDay_35 : decode cX10_endDay 35 = .ok (.bipush 7, 2) := by decide +kernel
theorem dX10_endDay_37 : decode cX10_endDay 37 = .ok (.idiv, 1) := by decide +kernel
theorem dX10_endDay_38 : decode cX10_endDay 38 = .ok (.istore_n 2, 1) := by decide +kernel
theorem dX10_endDay_39 : decode cX10_endDay 39 = .ok (.iload_n 1, 1) := by decide +kernel
theorem dX10_endDay_40 : decode cX10_endDay 40 = .ok (.bipush 7, 2) := by decide +kernel
theorem dX10_endDay_42 : decode cX10_endDay 42 = .ok (.irem, 1) := by decide +kernel
theorem dX10_endDay_43 : decode cX10_endDay 43 = .ok (.istore_n 3, 1) := by decide +kernel
theorem dX10_endDay_44 : decode cX10_endDay 44 = .ok (.iload_n 2, 1) := by decide +kernel
theorem dX10_endDay_45 : decode cX10_endDay 45 = .ok (.iload_n 3, 1) := by decide +kernel
theorem dX10_endDay_46 : decode cX10_endDay 46 = .ok (.if_icmp .ge 82, 3) := by decide +kernel
theorem dX10_endDay_49 : decode cX10_endDay 49 = .ok (.aload_n 0, 1) := by decide +kernel
theorem dX10_endDay_50 : decode cX10_endDay 50 = .ok (.getfield 13, 3) := by decide +kernel
theorem dX10_endDay_53 : decode cX10_endDay 53 = .ok (.iload_n 1, 1) := by decide +kernel
theorem dX10_endDay_54 : decode cX10_endDay 54 = .ok (.iaload, 1) := by decide +kernel
theorem dX10_endDay_55 : decode cX10_endDay 55 = .ok (.ifCond .ne 73, 3) := by decide +kernel
theorem dX10_endDay_58 : decode cX10_endDay 58 = .ok (.aload_n 0, 1) := by decide +kernel
theorem dX10_endDay_59 : decode cX10_endDay 59 = .ok (.getfield 13, 3) := by decide +kernel
theorem dX10_endDay_62 : decode cX10_endDay 62 = .ok (.bipush 56, 2) := by decide +kernel
theorem dX10_endDay_64 : decode cX10_endDay 64 = .ok (.iload_n 2, 1) := by decide +kernel
theorem dX10_endDay_65 : decode cX10_endDay 65 = .ok (.iadd, 1) := by decide +kernel
theorem dX10_endDay_66 : decode cX10_endDay 66 = .ok (.iaload, 1) := by decide +kernel
theorem dX10_endDay_67 : decode cX10_endDay 67 = .ok (.aload_n 0, 1) := by decide +kernel
theorem dX10_endDay_68 : decode cX10_endDay 68 = .ok (.getfield 13, 3) := by decide +kernel
theorem dX10_endDay_71 : decode cX10_endDay 71 = .ok (.bipush 56, 2) := by decide +kernel
theorem dX10_endDay_73 : decode cX10_endDay 73 = .ok (.iload_n 3, 1) := by decide +kernel
theorem dX10_endDay_74 : decode cX10_endDay 74 = .ok (.iadd, 1) := by decide +kernel
theorem dX10_endDay_75 : decode cX10_endDay 75 = .ok (.iaload, 1) := by decide +kernel
theorem dX10_endDay_76 : decode cX10_endDay 76 = .ok (.isub, 1) := by decide +kernel
theorem dX10_endDay_77 : decode cX10_endDay 77 = .ok (.istore 4, 2) := by decide +kernel
theorem dX10_endDay_79 : decode cX10_endDay 79 = .ok (.iload 4, 2) := by decide +kernel
theorem dX10_endDay_81 : decode cX10_endDay 81 = .ok (.ifCond .le 7, 3) := by decide +kernel
theorem dX10_endDay_84 : decode cX10_endDay 84 = .ok (.iconst 1, 1) := by decide +kernel
theorem dX10_endDay_85 : decode cX10_endDay 85 = .ok (.goto 13, 3) := by decide +kernel
theorem dX10_endDay_88 : decode cX10_endDay 88 = .ok (.iload 4, 2) := by decide +kernel
theorem dX10_endDay_90 : decode cX10_endDay 90 = .ok (.ifCond .ge 7, 3) := by decide +kernel
theorem dX10_endDay_93 : decode cX10_endDay 93 = .ok (.iconst (-1), 1) := by decide +kernel
theorem dX10_endDay_94 : decode cX10_endDay 94 = .ok (.goto 4, 3) := by decide +kernel
theorem dX10_endDay_97 : decode cX10_endDay 97 = .ok (.iconst 0, 1) := by decide +kernel
theorem dX10_endDay_98 : decode cX10_endDay 98 = .ok (.istore 5, 2) := by decide +kernel
theorem dX10_endDay_100 : decode cX10_endDay 100 = .ok (.aload_n 0, 1) := by decide +kernel
theorem dX10_endDay_101 : decode cX10_endDay 101 = .ok (.getfield 13, 3) := by decide +kernel
theorem dX10_endDay_104 : decode cX10_endDay 104 = .ok (.bipush 56, 2) := by decide +kernel
theorem dX10_endDay_106 : decode cX10_endDay 106 = .ok (.iload_n 2, 1) := by decide +kernel
theorem dX10_endDay_107 : decode cX10_endDay 107 = .ok (.iadd, 1) := by decide +kernel
theorem dX10_endDay_108 : decode cX10_endDay 108 = .ok (.dup2, 1) := by decide +kernel
theorem dX10_endDay_109 : decode cX10_endDay 109 = .ok (.iaload, 1) := by decide +kernel
theorem dX10_endDay_110 : decode cX10_endDay 110 = .ok (.iload 5, 2) := by decide +kernel
theorem dX10_endDay_112 : decode cX10_endDay 112 = .ok (.isub, 1) := by decide +kernel
theorem dX10_endDay_113 : decode cX10_endDay 113 = .ok (.iastore, 1) := by decide +kernel
theorem dX10_endDay_114 : decode cX10_endDay 114 = .ok (.aload_n 0, 1) := by decide +kernel
theorem dX10_endDay_115 : decode cX10_endDay 115 = .ok (.getfield 13, 3) := by decide +kernel
theorem dX10_endDay_118 : decode cX10_endDay 118 = .ok (.bipush 56, 2) := by decide +kernel
theorem dX10_endDay_120 : decode cX10_endDay 120 = .ok (.iload_n 3, 1) := by decide +kernel
theorem dX10_endDay_121 : decode cX10_endDay 121 = .ok (.iadd, 1) := by decide +kernel
theorem dX10_endDay_122 : decode cX10_endDay 122 = .ok (.dup2, 1) := by decide +kernel
theorem dX10_endDay_123 : decode cX10_endDay 123 = .ok (.iaload, 1) := by decide +kernel
theorem dX10_endDay_124 : decode cX10_endDay 124 = .ok (.iload 5, 2) := by decide +kernel
theorem dX10_endDay_126 : decode cX10_endDay 126 = .ok (.iadd, 1) := by decide +kernel
theorem dX10_endDay_127 : decode cX10_endDay 127 = .ok (.iastore, 1) := by decide +kernel
theorem dX10_endDay_128 : decode cX10_endDay 128 = .ok (.iinc 1 1, 3) := by decide +kernel
theorem dX10_endDay_131 : decode cX10_endDay 131 = .ok (.goto (-103), 3) := by decide +kernel
theorem dX10_endDay_134 : decode cX10_endDay 134 = .ok (.iconst 0, 1) := by decide +kernel
theorem dX10_endDay_135 : decode cX10_endDay 135 = .ok (.ireturn, 1) := by decide +kernel
theorem dX10_oneAct_0 : decode cX10_oneAct 0 = .ok (.aload_n 0, 1) := by decide +kernel
theorem dX10_oneAct_1 : decode cX10_oneAct 1 = .ok (.getfield 25, 3) := by decide +kernel
theorem dX10_oneAct_4 : decode cX10_oneAct 4 = .ok (.iload_n 1, 1) := by decide +kernel
theorem dX10_oneAct_5 : decode cX10_oneAct 5 = .ok (.iaload, 1) := by decide +kernel
theorem dX10_oneAct_6 : decode cX10_oneAct 6 = .ok (.istore_n 2, 1) := by decide +kernel
theorem dX10_oneAct_7 : decode cX10_oneAct 7 = .ok (.aload_n 0, 1) := by decide +kernel
theorem dX10_oneAct_8 : decode cX10_oneAct 8 = .ok (.getfield 25, 3) := by decide +kernel
theorem dX10_oneAct_11 : decode cX10_oneAct 11 = .ok (.iload_n 1, 1) := by decide +kernel
theorem dX10_oneAct_12 : decode cX10_oneAct 12 = .ok (.iconst 1, 1) := by decide +kernel
theorem dX10_oneAct_13 : decode cX10_oneAct 13 = .ok (.iadd, 1) := by decide +kernel
theorem dX10_oneAct_14 : decode cX10_oneAct 14 = .ok (.iaload, 1) := by decide +kernel
theorem dX10_oneAct_15 : decode cX10_oneAct 15 = .ok (.istore_n 3, 1) := by decide +kernel
theorem dX10_oneAct_16 : decode cX10_oneAct 16 = .ok (.iload_n 2, 1) := by decide +kernel
theorem dX10_oneAct_17 : decode cX10_oneAct 17 = .ok (.bipush 119, 2) := by decide +kernel
theorem dX10_oneAct_19 : decode cX10_oneAct 19 = .ok (.if_icmp .ne 12, 3) := by decide +kernel
theorem dX10_oneAct_22 : decode cX10_oneAct 22 = .ok (.aload_n 0, 1) := by decide +kernel
theorem dX10_oneAct_23 : decode cX10_oneAct 23 = .ok (.iload_n 3, 1) := by decide +kernel
theorem dX10_oneAct_24 : decode cX10_oneAct 24 = .ok (.bipush 48, 2) := by decide +kernel
theorem dX10_oneAct_26 : decode cX10_oneAct 26 = .ok (.isub, 1) := by decide +kernel
theorem dX10_oneAct_27 : decode cX10_oneAct 27 = .ok (.invokevirtual 105, 3) := by decide +kernel
theorem dX10_oneAct_30 : decode cX10_oneAct 30 = .ok (.ireturn, 1) := by decide +kernel
theorem dX10_oneAct_31 : decode cX10_oneAct 31 = .ok (.iload_n 3, 1) := by decide +kernel
theorem dX10_oneAct_32 : decode cX10_oneAct 32 = .ok (.bipush 42, 2) := by decide +kernel
theorem dX10_oneAct_34 : decode cX10_oneAct 34 = .ok (.if_icmp .ne 14, 3) := by decide +kernel
theorem dX10_oneAct_37 : decode cX10_oneAct 37 = .ok (.aload_n 0, 1) := by decide +kernel
theorem dX10_oneAct_38 : decode cX10_oneAct 38 = .ok (.iload_n 2, 1) := by decide +kernel
theorem dX10_oneAct_39 : decode cX10_oneAct 39 = .ok (.bipush 65, 2) := by decide +kernel
theorem dX10_oneAct_41 : decode cX10_oneAct 41 = .ok (.isub, 1) := by decide +kernel
theorem dX10_oneAct_42 : decode cX10_oneAct 42 = .ok (.invokevirtual 108, 3) := by decide +kernel
theorem dX10_oneAct_45 : decode cX10_oneAct 45 = .ok (.goto 43, 3) := by decide +kernel
theorem dX10_oneAct_48 : decode cX10_oneAct 48 = .ok (.iload_n 3, 1) := by decide +kernel
theorem dX10_oneAct_49 : decode cX10_oneAct 49 = .ok (.bipush 33, 2) := by decide +kernel
theorem dX10_oneAct_51 : decode cX10_oneAct 51 = .ok (.if_icmp .ne 25, 3) := by decide +kernel
theorem dX10_oneAct_54 : decode cX10_oneAct 54 = .ok (.aload_n 0, 1) := by decide +kernel
theorem dX10_oneAct_55 : decode cX10_oneAct 55 = .ok (.iload_n 2, 1) := by decide +kernel
theorem dX10_oneAct_56 : decode cX10_oneAct 56 = .ok (.bipush 65, 2) := by decide +kernel
theorem dX10_oneAct_58 : decode cX10_oneAct 58 = .ok (.isub, 1) := by decide +kernel
theorem dX10_oneAct_59 : decode cX10_oneAct 59 = .ok (.aload_n 0, 1) := by decide +kernel
theorem dX10_oneAct_60 : decode cX10_oneAct 60 = .ok (.getfield 25, 3) := by decide +kernel
theorem dX10_oneAct_63 : decode cX10_oneAct 63 = .ok (.iload_n 1, 1) := by decide +kernel
theorem dX10_oneAct_64 : decode cX10_oneAct 64 = .ok (.iconst 2, 1) := by decide +kernel
theorem dX10_oneAct_65 : decode cX10_oneAct 65 = .ok (.iadd, 1) := by decide +kernel
theorem dX10_oneAct_66 : decode cX10_oneAct 66 = .ok (.iaload, 1) := by decide +kernel
theorem dX10_oneAct_67 : decode cX10_oneAct 67 = .ok (.bipush 97, 2) := by decide +kernel
theorem dX10_oneAct_69 : decode cX10_oneAct 69 = .ok (.isub, 1) := by decide +kernel
theorem dX10_oneAct_70 : decode cX10_oneAct 70 = .ok (.invokevirtual 111, 3) := by decide +kernel
theorem dX10_oneAct_73 : decode cX10_oneAct 73 = .ok (.goto 15, 3) := by decide +kernel
theorem dX10_oneAct_76 : decode cX10_oneAct 76 = .ok (.aload_n 0, 1) := by decide +kernel
theorem dX10_oneAct_77 : decode cX10_oneAct 77 = .ok (.iload_n 2, 1) := by decide +kernel
theorem dX10_oneAct_78 : decode cX10_oneAct 78 = .ok (.bipush 65, 2) := by decide +kernel
theorem dX10_oneAct_80 : decode cX10_oneAct 80 = .ok (.isub, 1) := by decide +kernel
theorem dX10_oneAct_81 : decode cX10_oneAct 81 = .ok (.iload_n 3, 1) := by decide +kernel
theorem dX10_oneAct_82 : decode cX10_oneAct 82 = .ok (.bipush 97, 2) := by decide +kernel
theorem dX10_oneAct_84 : decode cX10_oneAct 84 = .ok (.isub, 1) := by decide +kernel
theorem dX10_oneAct_85 : decode cX10_oneAct 85 = .ok (.invokevirtual 114, 3) := by decide +kernel
theorem dX10_oneAct_88 : decode cX10_oneAct 88 = .ok (.ireturn, 1) := by decide +kernel
theorem dX10_goWeeks_0 : decode cX10_goWeeks 0 = .ok (.aload_n 0, 1) := by decide +kernel
theorem dX10_goWeeks_1 : decode cX10_goWeeks 1 = .ok (.invokevirtual 70, 3) := by decide +kernel
theorem dX10_goWeeks_4 : decode cX10_goWeeks 4 = .ok (.aload_n 0, 1) := by decide +kernel
theorem dX10_goWeeks_5 : decode cX10_goWeeks 5 = .ok (.iconst 0, 1) := by decide +kernel
theorem dX10_goWeeks_6 : decode cX10_goWeeks 6 = .ok (.putfield 117, 3) := by decide +kernel
theorem dX10_goWeeks_9 : decode cX10_goWeeks 9 = .ok (.iconst 0, 1) := by decide +kernel
theorem dX10_goWeeks_10 : decode cX10_goWeeks 10 = .ok (.istore_n 1, 1) := by decide +kernel
theorem dX10_goWeeks_11 : decode cX10_goWeeks 11 = .ok (.iload_n 1, 1) := by decide +kernel
theorem dX10_goWeeks_12 : decode cX10_goWeeks 12 = .ok (.aload_n 0, 1) := by decide +kernel
theorem dX10_goWeeks_13 : decode cX10_goWeeks 13 = .ok (.getfield 81, 3) := by decide +kernel
theorem dX10_goWeeks_16 : decode cX10_goWeeks 16 = .ok (.if_icmp .ge 194, 3) := by decide +kernel
theorem dX10_goWeeks_19 : decode cX10_goWeeks 19 = .ok (.iconst 0, 1) := by decide +kernel
theorem dX10_goWeeks_20 : decode cX10_goWeeks 20 = .ok (.istore_n 2, 1) := by decide +kernel
theorem dX10_goWeeks_21 : decode cX10_goWeeks 21 = .ok (.iload_n 2, 1) := by decide +kernel
theorem dX10_goWeeks_22 : decode cX10_goWeeks 22 = .ok (.bipush 49, 2) := by decide +kernel
theorem dX10_goWeeks_24 : decode cX10_goWeeks 24 = .ok (.if_icmp .ge 21, 3) := by decide +kernel
theorem dX10_goWeeks_27 : decode cX10_goWeeks 27 = .ok (.aload_n 0, 1) := by decide +kernel
theorem dX10_goWeeks_28 : decode cX10_goWeeks 28 = .ok (.getfield 28, 3) := by decide +kernel
theorem dX10_goWeeks_31 : decode cX10_goWeeks 31 = .ok (.iload_n 2, 1) := by decide +kernel
theorem dX10_goWeeks_32 : decode cX10_goWeeks 32 = .ok (.aload_n 0, 1) := by decide +kernel
theorem dX10_goWeeks_33 : decode cX10_goWeeks 33 = .ok (.getfield 13, 3) := by decide +kernel
theorem dX10_goWeeks_36 : decode cX10_goWeeks 36 = .ok (.iload_n 2, 1) := by decide +kernel
theorem dX10_goWeeks_37 : decode cX10_goWeeks 37 = .ok (.iaload, 1) := by decide +kernel
theorem dX10_goWeeks_38 : decode cX10_goWeeks 38 = .ok (.iastore, 1) := by decide +kernel
theorem dX10_goWeeks_39 : decode cX10_goWeeks 39 = .ok (.iinc 2 1, 3) := by decide +kernel
theorem dX10_goWeeks_42 : decode cX10_goWeeks 42 = .ok (.goto (-21), 3) := by decide +kernel
theorem dX10_goWeeks_45 : decode cX10_goWeeks 45 = .ok (.aload_n 0, 1) := by decide +kernel
theorem dX10_goWeeks_46 : decode cX10_goWeeks 46 = .ok (.getfield 25, 3) := by decide +kernel
theorem dX10_goWeeks_49 : decode cX10_goWeeks 49 = .ok (.iload_n 1, 1) := by decide +kernel
theorem dX10_goWeeks_50 : decode cX10_goWeeks 50 = .ok (.iaload, 1) := by decide +kernel
theorem dX10_goWeeks_51 : decode cX10_goWeeks 51 = .ok (.bipush 46, 2) := by decide +kernel
theorem dX10_goWeeks_53 : decode cX10_goWeeks 53 = .ok (.if_icmp .ne 7, 3) := by decide +kernel
theorem dX10_goWeeks_56 : decode cX10_goWeeks 56 = .ok (.iconst 1, 1) := by decide +kernel
theorem dX10_goWeeks_57 : decode cX10_goWeeks 57 = .ok (.goto 4, 3) := by decide +kernel
theorem dX10_goWeeks_60 : decode cX10_goWeeks 60 = .ok (.iconst 0, 1) := by decide +kernel
theorem dX10_goWeeks_61 : decode cX10_goWeeks 61 = .ok (.istore_n 2, 1) := by decide +kernel
theorem dX10_goWeeks_62 : decode cX10_goWeeks 62 = .ok (.aload_n 0, 1) := by decide +kernel
theorem dX10_goWeeks_63 : decode cX10_goWeeks 63 = .ok (.iload_n 2, 1) := by decide +kernel
theorem dX10_goWeeks_64 : decode cX10_goWeeks 64 = .ok (.ifCond .eq 10, 3) := by decide +kernel
theorem dX10_goWeeks_67 : decode cX10_goWeeks 67 = .ok (.aload_n 0, 1) := by decide +kernel
theorem dX10_goWeeks_68 : decode cX10_goWeeks 68 = .ok (.invokevirtual 120, 3) := by decide +kernel
theorem dX10_goWeeks_71 : decode cX10_goWeeks 71 = .ok (.goto 8, 3) := by decide +kernel
theorem dX10_goWeeks_74 : decode cX10_goWeeks 74 = .ok (.aload_n 0, 1) := by decide +kernel
theorem dX10_goWeeks_75 : decode cX10_goWeeks 75 = .ok (.iload_n 1, 1) := by decide +kernel
theorem dX10_goWeeks_76 : decode cX10_goWeeks 76 = .ok (.invokevirtual 123, 3) := by decide +kernel
theorem dX10_goWeeks_79 : decode cX10_goWeeks 79 = .ok (.putfield 126, 3) := by decide +kernel
theorem dX10_goWeeks_82 : decode cX10_goWeeks 82 = .ok (.iload_n 1, 1) := by decide +kernel
theorem dX10_goWeeks_83 : decode cX10_goWeeks 83 = .ok (.iload_n 2, 1) := by decide +kernel
theorem dX10_goWeeks_84 : decode cX10_goWeeks 84 = .ok (.ifCond .eq 7, 3) := by decide +kernel
theorem dX10_goWeeks_87 : decode cX10_goWeeks 87 = .ok (.iconst 1, 1) := by decide +kernel
theorem dX10_goWeeks_88 : decode cX10_goWeeks 88 = .ok (.goto 21, 3) := by decide +kernel
theorem dX10_goWeeks_91 : decode cX10_goWeeks 91 = .ok (.aload_n 0, 1) := by decide +kernel
theorem dX10_goWeeks_92 : decode cX10_goWeeks 92 = .ok (.getfield 25, 3) := by decide +kernel
theorem dX10_goWeeks_95 : decode cX10_goWeeks 95 = .ok (.iload_n 1, 1) := by decide +kernel
theorem dX10_goWeeks_96 : decode cX10_goWeeks 96 = .ok (.iconst 1, 1) := by decide +kernel
theorem dX10_goWeeks_97 : decode cX10_goWeeks 97 = .ok (.iadd, 1) := by decide +kernel
theorem dX10_goWeeks_98 : decode cX10_goWeeks 98 = .ok (.iaload, 1) := by decide +kernel
theorem dX10_goWeeks_99 : decode cX10_goWeeks 99 = .ok (.bipush 33, 2) := by decide +kernel
theorem dX10_goWeeks_101 : decode cX10_goWeeks 101 = .ok (.if_icmp .ne 7, 3) := by decide +kernel
theorem dX10_goWeeks_104 : decode cX10_goWeeks 104 = .ok (.iconst 3, 1) := by decide +kernel
theorem dX10_goWeeks_105 : decode cX10_goWeeks 105 = .ok (.goto 4, 3) := by decide +kernel
theorem dX10_goWeeks_108 : decode cX10_goWeeks 108 = .ok (.iconst 2, 1) := by decide +kernel
theorem dX10_goWeeks_109 : decode cX10_goWeeks 109 = .ok (.iadd, 1) := by decide +kernel
theorem dX10_goWeeks_110 : decode cX10_goWeeks 110 = .ok (.istore_n 1, 1) := by decide +kernel
theorem dX10_goWeeks_111 : decode cX10_goWeeks 111 = .ok (.aload_n 0, 1) := by decide +kernel
theorem dX10_goWeeks_112 : decode cX10_goWeeks 112 = .ok (.getfield 126, 3) := by decide +kernel
theorem dX10_goWeeks_115 : decode cX10_goWeeks 115 = .ok (.ifCond .le 8, 3) := by decide +kernel
theorem dX10_goWeeks_118 : decode cX10_goWeeks 118 = .ok (.aload_n 0, 1) := by decide +kernel
theorem dX10_goWeeks_119 : decode cX10_goWeeks 119 = .ok (.getfield 117, 3) := by decide +kernel
theorem dX10_goWeeks_122 : decode cX10_goWeeks 122 = .ok (.ireturn, 1) := by decide +kernel
theorem dX10_goWeeks_123 : decode cX10_goWeeks 123 = .ok (.iconst 0, 1) := by decide +kernel
theorem dX10_goWeeks_124 : decode cX10_goWeeks 124 = .ok (.istore_n 3, 1) := by decide +kernel
theorem dX10_goWeeks_125 : decode cX10_goWeeks 125 = .ok (.iload_n 3, 1) := by decide +kernel
theorem dX10_goWeeks_126 : decode cX10_goWeeks 126 = .ok (.bipush 49, 2) := by decide +kernel
theorem dX10_goWeeks_128 : decode cX10_goWeeks 128 = .ok (.if_icmp .ge 69, 3) := by decide +kernel
theorem dX10_goWeeks_131 : decode cX10_goWeeks 131 = .ok (.aload_n 0, 1) := by decide +kernel
theorem dX10_goWeeks_132 : decode cX10_goWeeks 132 = .ok (.getfield 95, 3) := by decide +kernel
theorem dX10_goWeeks_135 : decode cX10_goWeeks 135 = .ok (.ifCond .ge 62, 3) := by decide +kernel
theorem dX10_goWeeks_138 : decode cX10_goWeeks 138 = .ok (.iload_n 3, 1) := by decide +kernel
theorem dX10_goWeeks_139 : decode cX10_goWeeks 139 = .ok (.bipush 7, 2) := by decide +kernel
theorem dX10_goWeeks_141 : decode cX10_goWeeks 141 = .ok (.idiv, 1) := by decide +kernel
theorem dX10_goWeeks_142 : decode cX10_goWeeks 142 = .ok (.iload_n 3, 1) := by decide +kernel
theorem dX10_goWeeks_143 : decode cX10_goWeeks 143 = .ok (.bipush 7, 2) := by decide +kernel
theorem dX10_goWeeks_145 : decode cX10_goWeeks 145 = .ok (.irem, 1) := by decide +kernel
theorem dX10_goWeeks_146 : decode cX10_goWeeks 146 = .ok (.if_icmp .ge 45, 3) := by decide +kernel
theorem dX10_goWeeks_149 : decode cX10_goWeeks 149 = .ok (.aload_n 0, 1) := by decide +kernel
theorem dX10_goWeeks_150 : decode cX10_goWeeks 150 = .ok (.getfield 13, 3) := by decide +kernel
theorem dX10_goWeeks_153 : decode cX10_goWeeks 153 = .ok (.iload_n 3, 1) := by decide +kernel
theorem dX10_goWeeks_154 : decode cX10_goWeeks 154 = .ok (.iaload, 1) := by decide +kernel
theorem dX10_goWeeks_155 : decode cX10_goWeeks 155 = .ok (.ifCond .ne 36, 3) := by decide +kernel
theorem dX10_goWeeks_158 : decode cX10_goWeeks 158 = .ok (.aload_n 0, 1) := by decide +kernel
theorem dX10_goWeeks_159 : decode cX10_goWeeks 159 = .ok (.getfield 28, 3) := by decide +kernel
theorem dX10_goWeeks_162 : decode cX10_goWeeks 162 = .ok (.iload_n 3, 1) := by decide +kernel
theorem dX10_goWeeks_163 : decode cX10_goWeeks 163 = .ok (.iaload, 1) := by decide +kernel
theorem dX10_goWeeks_164 : decode cX10_goWeeks 164 = .ok (.ifCond .le 27, 3) := by decide +kernel
theorem dX10_goWeeks_167 : decode cX10_goWeeks 167 = .ok (.aload_n 0, 1) := by decide +kernel
theorem dX10_goWeeks_168 : decode cX10_goWeeks 168 = .ok (.aload_n 0, 1) := by decide +kernel
theorem dX10_goWeeks_169 : decode cX10_goWeeks 169 = .ok (.getfield 117, 3) := by decide +kernel
theorem dX10_goWeeks_172 : decode cX10_goWeeks 172 = .ok (.putfield 95, 3) := by decide +kernel
theorem dX10_goWeeks_175 : decode cX10_goWeeks 175 = .ok (.aload_n 0, 1) := by decide +kernel
theorem dX10_goWeeks_176 : decode cX10_goWeeks 176 = .ok (.bipush 10, 2) := by decide +kernel
theorem dX10_goWeeks_178 : decode cX10_goWeeks 178 = .ok (.iload_n 3, 1) := by decide +kernel
theorem dX10_goWeeks_179 : decode cX10_goWeeks 179 = .ok (.bipush 7, 2) := by decide +kernel
theorem dX10_goWeeks_181 : decode cX10_goWeeks 181 = .ok (.idiv, 1) := by decide +kernel
theorem dX10_goWeeks_182 : decode cX10_goWeeks 182 = .ok (.imul, 1) := by decide +kernel
theorem dX10_goWeeks_183 : decode cX10_goWeeks 183 = .ok (.iload_n 3, 1) := by decide +kernel
theorem dX10_goWeeks_184 : decode cX10_goWeeks 184 = .ok (.bipush 7, 2) := by decide +kernel
theorem dX10_goWeeks_186 : decode cX10_goWeeks 186 = .ok (.irem, 1) := by decide +kernel
theorem dX10_goWeeks_187 : decode cX10_goWeeks 187 = .ok (.iadd, 1) := by decide +kernel
theorem dX10_goWeeks_188 : decode cX10_goWeeks 188 = .ok (.putfield 98, 3) := by decide +kernel
theorem dX10_goWeeks_191 : decode cX10_goWeeks 191 = .ok (.iinc 3 1, 3) := by decide +kernel
theorem dX10_goWeeks_194 : decode cX10_goWeeks 194 = .ok (.goto (-69), 3) := by decide +kernel
theorem dX10_goWeeks_197 : decode cX10_goWeeks 197 = .ok (.aload_n 0, 1) := by decide +kernel
theorem dX10_goWeeks_198 : decode cX10_goWeeks 198 = .ok (.dup, 1) := by decide +kernel
theorem dX10_goWeeks_199 : decode cX10_goWeeks 199 = .ok (.getfield 117, 3) := by decide +kernel
theorem dX10_goWeeks_202 : decode cX10_goWeeks 202 = .ok (.iconst 1, 1) := by decide +kernel
theorem dX10_goWeeks_203 : decode cX10_goWeeks 203 = .ok (.iadd, 1) := by decide +kernel
theorem dX10_goWeeks_204 : decode cX10_goWeeks 204 = .ok (.putfield 117, 3) := by decide +kernel
theorem dX10_goWeeks_207 : decode cX10_goWeeks 207 = .ok (.goto (-196), 3) := by decide +kernel
theorem dX10_goWeeks_210 : decode cX10_goWeeks 210 = .ok (.bipush (-6), 2) := by decide +kernel
theorem dX10_goWeeks_212 : decode cX10_goWeeks 212 = .ok (.ireturn, 1) := by decide +kernel
theorem dX10_judge_0 : decode cX10_judge 0 = .ok (.iload_n 1, 1) := by decide +kernel
theorem dX10_judge_1 : decode cX10_judge 1 = .ok (.iconst 0, 1) := by decide +kernel
theorem dX10_judge_2 : decode cX10_judge 2 = .ok (.iconst 1, 1) := by decide +kernel
theorem dX10_judge_3 : decode cX10_judge 3 = .ok (.invokestatic 62, 3) := by decide +kernel
theorem dX10_judge_6 : decode cX10_judge 6 = .ok (.ifCond .ne 6, 3) := by decide +kernel
theorem dX10_judge_9 : decode cX10_judge 9 = .ok (.bipush (-2), 2) := by decide +kernel
theorem dX10_judge_11 : decode cX10_judge 11 = .ok (.ireturn, 1) := by decide +kernel
theorem dX10_judge_12 : decode cX10_judge 12 = .ok (.aload_n 0, 1) := by decide +kernel
theorem dX10_judge_13 : decode cX10_judge 13 = .ok (.invokevirtual 88, 3) := by decide +kernel
theorem dX10_judge_16 : decode cX10_judge 16 = .ok (.ifCond .lt 6, 3) := by decide +kernel
theorem dX10_judge_19 : decode cX10_judge 19 = .ok (.bipush (-5), 2) := by decide +kernel
theorem dX10_judge_21 : decode cX10_judge 21 = .ok (.ireturn, 1) := by decide +kernel
theorem dX10_judge_22 : decode cX10_judge 22 = .ok (.aload_n 0, 1) := by decide +kernel
theorem dX10_judge_23 : decode cX10_judge 23 = .ok (.invokevirtual 129, 3) := by decide +kernel
theorem dX10_judge_26 : decode cX10_judge 26 = .ok (.istore_n 2, 1) := by decide +kernel
theorem dX10_judge_27 : decode cX10_judge 27 = .ok (.iload_n 2, 1) := by decide +kernel
theorem dX10_judge_28 : decode cX10_judge 28 = .ok (.ifCond .lt 7, 3) := by decide +kernel
theorem dX10_judge_31 : decode cX10_judge 31 = .ok (.iload_n 1, 1) := by decide +kernel
theorem dX10_judge_32 : decode cX10_judge 32 = .ok (.ifCond .ne 7, 3) := by decide +kernel
theorem dX10_judge_35 : decode cX10_judge 35 = .ok (.iload_n 2, 1) := by decide +kernel
theorem dX10_judge_36 : decode cX10_judge 36 = .ok (.goto 7, 3) := by decide +kernel
theorem dX10_judge_39 : decode cX10_judge 39 = .ok (.aload_n 0, 1) := by decide +kernel
theorem dX10_judge_40 : decode cX10_judge 40 = .ok (.getfield 126, 3) := by decide +kernel
theorem dX10_judge_43 : decode cX10_judge 43 = .ok (.ireturn, 1) := by decide +kernel
theorem dX10_barOfWeeks_0 : decode cX10_barOfWeeks 0 = .ok (.aload_n 0, 1) := by decide +kernel
theorem dX10_barOfWeeks_1 : decode cX10_barOfWeeks 1 = .ok (.invokevirtual 88, 3) := by decide +kernel
theorem dX10_barOfWeeks_4 : decode cX10_barOfWeeks 4 = .ok (.ifCond .ge 10, 3) := by decide +kernel
theorem dX10_barOfWeeks_7 : decode cX10_barOfWeeks 7 = .ok (.aload_n 0, 1) := by decide +kernel
theorem dX10_barOfWeeks_8 : decode cX10_barOfWeeks 8 = .ok (.invokevirtual 129, 3) := by decide +kernel
theorem dX10_barOfWeeks_11 : decode cX10_barOfWeeks 11 = .ok (.ifCond .lt 8, 3) := by decide +kernel
theorem dX10_barOfWeeks_14 : decode cX10_barOfWeeks 14 = .ok (.bipush (-5), 2) := by decide +kernel
theorem dX10_barOfWeeks_16 : decode cX10_barOfWeeks 16 = .ok (.goto 4, 3) := by decide +kernel
theorem dX10_barOfWeeks_19 : decode cX10_barOfWeeks 19 = .ok (.iconst 0, 1) := by decide +kernel
theorem dX10_barOfWeeks_20 : decode cX10_barOfWeeks 20 = .ok (.ireturn, 1) := by decide +kernel
theorem dX10_done_0 : decode cX10_done 0 = .ok (.aload_n 0, 1) := by decide +kernel
theorem dX10_done_1 : decode cX10_done 1 = .ok (.invokevirtual 132, 3) := by decide +kernel
theorem dX10_done_4 : decode cX10_done 4 = .ok (.ifCond .ge 6, 3) := by decide +kernel
theorem dX10_done_7 : decode cX10_done 7 = .ok (.bipush (-5), 2) := by decide +kernel
theorem dX10_done_9 : decode cX10_done 9 = .ok (.ireturn, 1) := by decide +kernel
theorem dX10_done_10 : decode cX10_done 10 = .ok (.iconst 0, 1) := by decide +kernel
theorem dX10_done_11 : decode cX10_done 11 = .ok (.istore_n 1, 1) := by decide +kernel
theorem dX10_done_12 : decode cX10_done 12 = .ok (.iload_n 1, 1) := by decide +kernel
theorem dX10_done_13 : decode cX10_done 13 = .ok (.bipush 64, 2) := by decide +kernel
theorem dX10_done_15 : decode cX10_done 15 = .ok (.if_icmp .ge 21, 3) := by decide +kernel
theorem dX10_done_18 : decode cX10_done 18 = .ok (.aload_n 0, 1) := by decide +kernel
theorem dX10_done_19 : decode cX10_done 19 = .ok (.getfield 7, 3) := by decide +kernel
theorem dX10_done_22 : decode cX10_done 22 = .ok (.iload_n 1, 1) := by decide +kernel
theorem dX10_done_23 : decode cX10_done 23 = .ok (.aload_n 0, 1) := by decide +kernel
theorem dX10_done_24 : decode cX10_done 24 = .ok (.getfield 13, 3) := by decide +kernel
theorem dX10_done_27 : decode cX10_done 27 = .ok (.iload_n 1, 1) := by decide +kernel
theorem dX10_done_28 : decode cX10_done 28 = .ok (.iaload, 1) := by decide +kernel
theorem dX10_done_29 : decode cX10_done 29 = .ok (.iastore, 1) := by decide +kernel
theorem dX10_done_30 : decode cX10_done 30 = .ok (.iinc 1 1, 3) := by decide +kernel
theorem dX10_done_33 : decode cX10_done 33 = .ok (.goto (-21), 3) := by decide +kernel
theorem dX10_done_36 : decode cX10_done 36 = .ok (.aload_n 0, 1) := by decide +kernel
theorem dX10_done_37 : decode cX10_done 37 = .ok (.iconst 0, 1) := by decide +kernel
theorem dX10_done_38 : decode cX10_done 38 = .ok (.putfield 81, 3) := by decide +kernel
theorem dX10_done_41 : decode cX10_done 41 = .ok (.aload_n 0, 1) := by decide +kernel
theorem dX10_done_42 : decode cX10_done 42 = .ok (.getfield 117, 3) := by decide +kernel
theorem dX10_done_45 : decode cX10_done 45 = .ok (.ireturn, 1) := by decide +kernel
theorem dX10_behind_0 : decode cX10_behind 0 = .ok (.iload_n 1, 1) := by decide +kernel
theorem dX10_behind_1 : decode cX10_behind 1 = .ok (.invokestatic 66, 3) := by decide +kernel
theorem dX10_behind_4 : decode cX10_behind 4 = .ok (.ifCond .eq 15, 3) := by decide +kernel
theorem dX10_behind_7 : decode cX10_behind 7 = .ok (.iload_n 2, 1) := by decide +kernel
theorem dX10_behind_8 : decode cX10_behind 8 = .ok (.invokestatic 66, 3) := by decide +kernel
theorem dX10_behind_11 : decode cX10_behind 11 = .ok (.ifCond .eq 8, 3) := by decide +kernel
theorem dX10_behind_14 : decode cX10_behind 14 = .ok (.iload_n 1, 1) := by decide +kernel
theorem dX10_behind_15 : decode cX10_behind 15 = .ok (.iload_n 2, 1) := by decide +kernel
theorem dX10_behind_16 : decode cX10_behind 16 = .ok (.if_icmp .ne 5, 3) := by decide +kernel
theorem dX10_behind_19 : decode cX10_behind 19 = .ok (.iconst (-1), 1) := by decide +kernel
theorem dX10_behind_20 : decode cX10_behind 20 = .ok (.ireturn, 1) := by decide +kernel
theorem dX10_behind_21 : decode cX10_behind 21 = .ok (.aload_n 0, 1) := by decide +kernel
theorem dX10_behind_22 : decode cX10_behind 22 = .ok (.invokevirtual 132, 3) := by decide +kernel
theorem dX10_behind_25 : decode cX10_behind 25 = .ok (.ifCond .ge 8, 3) := by decide +kernel
theorem dX10_behind_28 : decode cX10_behind 28 = .ok (.bipush (-5), 2) := by decide +kernel
theorem dX10_behind_30 : decode cX10_behind 30 = .ok (.goto 14, 3) := by decide +kernel
theorem dX10_behind_33 : decode cX10_behind 33 = .ok (.aload_n 0, 1) := by decide +kernel
theorem dX10_behind_34 : decode cX10_behind 34 = .ok (.getfield 13, 3) := by decide +kernel
theorem dX10_behind_37 : decode cX10_behind 37 = .ok (.bipush 7, 2) := by decide +kernel
theorem dX10_behind_39 : decode cX10_behind 39 = .ok (.iload_n 1, 1) := by decide +kernel
theorem dX10_behind_40 : decode cX10_behind 40 = .ok (.imul, 1) := by decide +kernel
theorem dX10_behind_41 : decode cX10_behind 41 = .ok (.iload_n 2, 1) := by decide +kernel
theorem dX10_behind_42 : decode cX10_behind 42 = .ok (.iadd, 1) := by decide +kernel
theorem dX10_behind_43 : decode cX10_behind 43 = .ok (.iaload, 1) := by decide +kernel
theorem dX10_behind_44 : decode cX10_behind 44 = .ok (.ireturn, 1) := by decide +kernel
theorem dX10_goes_0 : decode cX10_goes 0 = .ok (.iload_n 1, 1) := by decide +kernel
theorem dX10_goes_1 : decode cX10_goes 1 = .ok (.invokestatic 66, 3) := by decide +kernel
theorem dX10_goes_4 : decode cX10_goes 4 = .ok (.ifCond .ne 5, 3) := by decide +kernel
theorem dX10_goes_7 : decode cX10_goes 7 = .ok (.iconst (-1), 1) := by decide +kernel
theorem dX10_goes_8 : decode cX10_goes 8 = .ok (.ireturn, 1) := by decide +kernel
theorem dX10_goes_9 : decode cX10_goes 9 = .ok (.iload_n 2, 1) := by decide +kernel
theorem dX10_goes_10 : decode cX10_goes 10 = .ok (.iconst 0, 1) := by decide +kernel
theorem dX10_goes_11 : decode cX10_goes 11 = .ok (.iconst 1, 1) := by decide +kernel
theorem dX10_goes_12 : decode cX10_goes 12 = .ok (.invokestatic 62, 3) := by decide +kernel
theorem dX10_goes_15 : decode cX10_goes 15 = .ok (.ifCond .ne 6, 3) := by decide +kernel
theorem dX10_goes_18 : decode cX10_goes 18 = .ok (.bipush (-2), 2) := by decide +kernel
theorem dX10_goes_20 : decode cX10_goes 20 = .ok (.ireturn, 1) := by decide +kernel
theorem dX10_goes_21 : decode cX10_goes 21 = .ok (.aload_n 0, 1) := by decide +kernel
theorem dX10_goes_22 : decode cX10_goes 22 = .ok (.invokevirtual 132, 3) := by decide +kernel
theorem dX10_goes_25 : decode cX10_goes 25 = .ok (.ifCond .ge 8, 3) := by decide +kernel
theorem dX10_goes_28 : decode cX10_goes 28 = .ok (.bipush (-5), 2) := by decide +kernel
theorem dX10_goes_30 : decode cX10_goes 30 = .ok (.goto 17, 3) := by decide +kernel
theorem dX10_goes_33 : decode cX10_goes 33 = .ok (.aload_n 0, 1) := by decide +kernel
theorem dX10_goes_34 : decode cX10_goes 34 = .ok (.getfield 13, 3) := by decide +kernel
theorem dX10_goes_37 : decode cX10_goes 37 = .ok (.bipush 49, 2) := by decide +kernel
theorem dX10_goes_39 : decode cX10_goes 39 = .ok (.bipush 7, 2) := by decide +kernel
theorem dX10_goes_41 : decode cX10_goes 41 = .ok (.iload_n 2, 1) := by decide +kernel
theorem dX10_goes_42 : decode cX10_goes 42 = .ok (.imul, 1) := by decide +kernel
theorem dX10_goes_43 : decode cX10_goes 43 = .ok (.iadd, 1) := by decide +kernel
theorem dX10_goes_44 : decode cX10_goes 44 = .ok (.iload_n 1, 1) := by decide +kernel
theorem dX10_goes_45 : decode cX10_goes 45 = .ok (.iadd, 1) := by decide +kernel
theorem dX10_goes_46 : decode cX10_goes 46 = .ok (.iaload, 1) := by decide +kernel
theorem dX10_goes_47 : decode cX10_goes 47 = .ok (.ireturn, 1) := by decide +kernel
theorem dX10_then_0 : decode cX10_then 0 = .ok (.iload_n 1, 1) := by decide +kernel
theorem dX10_then_1 : decode cX10_then 1 = .ok (.iconst 0, 1) := by decide +kernel
theorem dX10_then_2 : decode cX10_then 2 = .ok (.iconst 5, 1) := by decide +kernel
theorem dX10_then_3 : decode cX10_then 3 = .ok (.invokestatic 62, 3) := by decide +kernel
theorem dX10_then_6 : decode cX10_then 6 = .ok (.ifCond .ne 6, 3) := by decide +kernel
theorem dX10_then_9 : decode cX10_then 9 = .ok (.bipush (-2), 2) := by decide +kernel
theorem dX10_then_11 : decode cX10_then 11 = .ok (.ireturn, 1) := by decide +kernel
theorem dX10_then_12 : decode cX10_then 12 = .ok (.aload_n 0, 1) := by decide +kernel
theorem dX10_then_13 : decode cX10_then 13 = .ok (.invokevirtual 132, 3) := by decide +kernel
theorem dX10_then_16 : decode cX10_then 16 = .ok (.ifCond .ge 6, 3) := by decide +kernel
theorem dX10_then_19 : decode cX10_then 19 = .ok (.bipush (-5), 2) := by decide +kernel
theorem dX10_then_21 : decode cX10_then 21 = .ok (.ireturn, 1) := by decide +kernel
theorem dX10_then_22 : decode cX10_then 22 = .ok (.iload_n 1, 1) := by decide +kernel
theorem dX10_then_23 : decode cX10_then 23 = .ok (.tableswitch 53 0 3 #[29, 35, 40, 45], 29) := by decide +kernel
theorem dX10_then_52 : decode cX10_then 52 = .ok (.aload_n 0, 1) := by decide +kernel
theorem dX10_then_53 : decode cX10_then 53 = .ok (.iconst 0, 1) := by decide +kernel
theorem dX10_then_54 : decode cX10_then 54 = .ok (.invokevirtual 73, 3) := by decide +kernel
theorem dX10_then_57 : decode cX10_then 57 = .ok (.ireturn, 1) := by decide +kernel
theorem dX10_then_58 : decode cX10_then 58 = .ok (.aload_n 0, 1) := by decide +kernel
theorem dX10_then_59 : decode cX10_then 59 = .ok (.getfield 92, 3) := by decide +kernel
theorem dX10_then_62 : decode cX10_then 62 = .ok (.ireturn, 1) := by decide +kernel
theorem dX10_then_63 : decode cX10_then 63 = .ok (.aload_n 0, 1) := by decide +kernel
theorem dX10_then_64 : decode cX10_then 64 = .ok (.invokevirtual 135, 3) := by decide +kernel
theorem dX10_then_67 : decode cX10_then 67 = .ok (.ireturn, 1) := by decide +kernel
theorem dX10_then_68 : decode cX10_then 68 = .ok (.aload_n 0, 1) := by decide +kernel
theorem dX10_then_69 : decode cX10_then 69 = .ok (.getfield 13, 3) := by decide +kernel
theorem dX10_then_72 : decode cX10_then 72 = .ok (.bipush 63, 2) := by decide +kernel
theorem dX10_then_74 : decode cX10_then 74 = .ok (.iaload, 1) := by decide +kernel
theorem dX10_then_75 : decode cX10_then 75 = .ok (.ireturn, 1) := by decide +kernel
theorem dX10_then_76 : decode cX10_then 76 = .ok (.iload_n 1, 1) := by decide +kernel
theorem dX10_then_77 : decode cX10_then 77 = .ok (.iconst 4, 1) := by decide +kernel
theorem dX10_then_78 : decode cX10_then 78 = .ok (.if_icmp .ne 10, 3) := by decide +kernel
theorem dX10_then_81 : decode cX10_then 81 = .ok (.aload_n 0, 1) := by decide +kernel
theorem dX10_then_82 : decode cX10_then 82 = .ok (.getfield 95, 3) := by decide +kernel
theorem dX10_then_85 : decode cX10_then 85 = .ok (.goto 7, 3) := by decide +kernel
theorem dX10_then_88 : decode cX10_then 88 = .ok (.aload_n 0, 1) := by decide +kernel
theorem dX10_then_89 : decode cX10_then 89 = .ok (.getfield 98, 3) := by decide +kernel
theorem dX10_then_92 : decode cX10_then 92 = .ok (.ireturn, 1) := by decide +kernel
theorem dX10_layApart_0 : decode cX10_layApart 0 = .ok (.iconst 0, 1) := by decide +kernel
theorem dX10_layApart_1 : decode cX10_layApart 1 = .ok (.istore_n 1, 1) := by decide +kernel
theorem dX10_layApart_2 : decode cX10_layApart 2 = .ok (.iload_n 1, 1) := by decide +kernel
theorem dX10_layApart_3 : decode cX10_layApart 3 = .ok (.bipush 49, 2) := by decide +kernel
theorem dX10_layApart_5 : decode cX10_layApart 5 = .ok (.if_icmp .ge 50, 3) := by decide +kernel
theorem dX10_layApart_8 : decode cX10_layApart 8 = .ok (.aload_n 0, 1) := by decide +kernel
theorem dX10_layApart_9 : decode cX10_layApart 9 = .ok (.getfield 31, 3) := by decide +kernel
theorem dX10_layApart_12 : decode cX10_layApart 12 = .ok (.iload_n 1, 1) := by decide +kernel
theorem dX10_layApart_13 : decode cX10_layApart 13 = .ok (.iload_n 1, 1) := by decide +kernel
theorem dX10_layApart_14 : decode cX10_layApart 14 = .ok (.bipush 7, 2) := by decide +kernel
theorem dX10_layApart_16 : decode cX10_layApart 16 = .ok (.idiv, 1) := by decide +kernel
theorem dX10_layApart_17 : decode cX10_layApart 17 = .ok (.iload_n 1, 1) := by decide +kernel
theorem dX10_layApart_18 : decode cX10_layApart 18 = .ok (.bipush 7, 2) := by decide +kernel
theorem dX10_layApart_20 : decode cX10_layApart 20 = .ok (.irem, 1) := by decide +kernel
theorem dX10_layApart_21 : decode cX10_layApart 21 = .ok (.if_icmp .ne 7, 3) := by decide +kernel
theorem dX10_layApart_24 : decode cX10_layApart 24 = .ok (.iconst 0, 1) := by decide +kernel
theorem dX10_layApart_25 : decode cX10_layApart 25 = .ok (.goto 23, 3) := by decide +kernel
theorem dX10_layApart_28 : decode cX10_layApart 28 = .ok (.aload_n 0, 1) := by decide +kernel
theorem dX10_layApart_29 : decode cX10_layApart 29 = .ok (.getfield 16, 3) := by decide +kernel
theorem dX10_layApart_32 : decode cX10_layApart 32 = .ok (.iload_n 1, 1) := by decide +kernel
theorem dX10_layApart_33 : decode cX10_layApart 33 = .ok (.iaload, 1) := by decide +kernel
theorem dX10_layApart_34 : decode cX10_layApart 34 = .ok (.ifCond .le 12, 3) := by decide +kernel
theorem dX10_layApart_37 : decode cX10_layApart 37 = .ok (.aload_n 0, 1) := by decide +kernel
theorem dX10_layApart_38 : decode cX10_layApart 38 = .ok (.getfield 16, 3) := by decide +kernel
theorem dX10_layApart_41 : decode cX10_layApart 41 = .ok (.iload_n 1, 1) := by decide +kernel
theorem dX10_layApart_42 : decode cX10_layApart 42 = .ok (.iaload, 1) := by decide +kernel
theorem dX10_layApart_43 : decode cX10_layApart 43 = .ok (.goto 5, 3) := by decide +kernel
theorem dX10_layApart_46 : decode cX10_layApart 46 = .ok (.ldc 138, 2) := by decide +kernel
theorem dX10_layApart_48 : decode cX10_layApart 48 = .ok (.iastore, 1) := by decide +kernel
theorem dX10_layApart_49 : decode cX10_layApart 49 = .ok (.iinc 1 1, 3) := by decide +kernel
theorem dX10_layApart_52 : decode cX10_layApart 52 = .ok (.goto (-50), 3) := by decide +kernel
theorem dX10_layApart_55 : decode cX10_layApart 55 = .ok (.iconst 0, 1) := by decide +kernel
theorem dX10_layApart_56 : decode cX10_layApart 56 = .ok (.istore_n 1, 1) := by decide +kernel
theorem dX10_layApart_57 : decode cX10_layApart 57 = .ok (.iload_n 1, 1) := by decide +kernel
theorem dX10_layApart_58 : decode cX10_layApart 58 = .ok (.bipush 7, 2) := by decide +kernel
theorem dX10_layApart_60 : decode cX10_layApart 60 = .ok (.if_icmp .ge 79, 3) := by decide +kernel
theorem dX10_layApart_63 : decode cX10_layApart 63 = .ok (.iconst 0, 1) := by decide +kernel
theorem dX10_layApart_64 : decode cX10_layApart 64 = .ok (.istore_n 2, 1) := by decide +kernel
theorem dX10_layApart_65 : decode cX10_layApart 65 = .ok (.iload_n 2, 1) := by decide +kernel
theorem dX10_layApart_66 : decode cX10_layApart 66 = .ok (.bipush 49, 2) := by decide +kernel
theorem dX10_layApart_68 : decode cX10_layApart 68 = .ok (.if_icmp .ge 65, 3) := by decide +kernel
theorem dX10_layApart_71 : decode cX10_layApart 71 = .ok (.aload_n 0, 1) := by decide +kernel
theorem dX10_layApart_72 : decode cX10_layApart 72 = .ok (.getfield 31, 3) := by decide +kernel
theorem dX10_layApart_75 : decode cX10_layApart 75 = .ok (.iload_n 2, 1) := by decide +kernel
theorem dX10_layApart_76 : decode cX10_layApart 76 = .ok (.bipush 7, 2) := by decide +kernel
theorem dX10_layApart_78 : decode cX10_layApart 78 = .ok (.idiv, 1) := by decide +kernel
theorem dX10_layApart_79 : decode cX10_layApart 79 = .ok (.bipush 7, 2) := by decide +kernel
theorem dX10_layApart_81 : decode cX10_layApart 81 = .ok (.imul, 1) := by decide +kernel
theorem dX10_layApart_82 : decode cX10_layApart 82 = .ok (.iload_n 1, 1) := by decide +kernel
theorem dX10_layApart_83 : decode cX10_layApart 83 = .ok (.iadd, 1) := by decide +kernel
theorem dX10_layApart_84 : decode cX10_layApart 84 = .ok (.iaload, 1) := by decide +kernel
theorem dX10_layApart_85 : decode cX10_layApart 85 = .ok (.aload_n 0, 1) := by decide +kernel
theorem dX10_layApart_86 : decode cX10_layApart 86 = .ok (.getfield 31, 3) := by decide +kernel
theorem dX10_layApart_89 : decode cX10_layApart 89 = .ok (.bipush 7, 2) := by decide +kernel
theorem dX10_layApart_91 : decode cX10_layApart 91 = .ok (.iload_n 1, 1) := by decide +kernel
theorem dX10_layApart_92 : decode cX10_layApart 92 = .ok (.imul, 1) := by decide +kernel
theorem dX10_layApart_93 : decode cX10_layApart 93 = .ok (.iload_n 2, 1) := by decide +kernel
theorem dX10_layApart_94 : decode cX10_layApart 94 = .ok (.bipush 7, 2) := by decide +kernel
theorem dX10_layApart_96 : decode cX10_layApart 96 = .ok (.irem, 1) := by decide +kernel
theorem dX10_layApart_97 : decode cX10_layApart 97 = .ok (.iadd, 1) := by decide +kernel
theorem dX10_layApart_98 : decode cX10_layApart 98 = .ok (.iaload, 1) := by decide +kernel
theorem dX10_layApart_99 : decode cX10_layApart 99 = .ok (.iadd, 1) := by decide +kernel
theorem dX10_layApart_100 : decode cX10_layApart 100 = .ok (.istore_n 3, 1) := by decide +kernel
theorem dX10_layApart_101 : decode cX10_layApart 101 = .ok (.aload_n 0, 1) := by decide +kernel
theorem dX10_layApart_102 : decode cX10_layApart 102 = .ok (.getfield 31, 3) := by decide +kernel
theorem dX10_layApart_105 : decode cX10_layApart 105 = .ok (.iload_n 2, 1) := by decide +kernel
theorem dX10_layApart_106 : decode cX10_layApart 106 = .ok (.iload_n 3, 1) := by decide +kernel
theorem dX10_layApart_107 : decode cX10_layApart 107 = .ok (.aload_n 0, 1) := by decide +kernel
theorem dX10_layApart_108 : decode cX10_layApart 108 = .ok (.getfield 31, 3) := by decide +kernel
theorem dX10_layApart_111 : decode cX10_layApart 111 = .ok (.iload_n 2, 1) := by decide +kernel
theorem dX10_layApart_112 : decode cX10_layApart 112 = .ok (.iaload, 1) := by decide +kernel
theorem dX10_layApart_113 : decode cX10_layApart 113 = .ok (.if_icmp .ge 7, 3) := by decide +kernel
theorem dX10_layApart_116 : decode cX10_layApart 116 = .ok (.iload_n 3, 1) := by decide +kernel
theorem dX10_layApart_117 : decode cX10_layApart 117 = .ok (.goto 9, 3) := by decide +kernel
theorem dX10_layApart_120 : decode cX10_layApart 120 = .ok (.aload_n 0, 1) := by decide +kernel
theorem dX10_layApart_121 : decode cX10_layApart 121 = .ok (.getfield 31, 3) := by decide +kernel
theorem dX10_layApart_124 : decode cX10_layApart 124 = .ok (.iload_n 2, 1) := by decide +kernel
theorem dX10_layApart_125 : decode cX10_layApart 125 = .ok (.iaload, 1) := by decide +kernel
theorem dX10_layApart_126 : decode cX10_layApart 126 = .ok (.iastore, 1) := by decide +kernel
theorem dX10_layApart_127 : decode cX10_layApart 127 = .ok (.iinc 2 1, 3) := by decide +kernel
theorem dX10_layApart_130 : decode cX10_layApart 130 = .ok (.goto (-65), 3) := by decide +kernel
theorem dX10_layApart_133 : decode cX10_layApart 133 = .ok (.iinc 1 1, 3) := by decide +kernel
theorem dX10_layApart_136 : decode cX10_layApart 136 = .ok (.goto (-79), 3) := by decide +kernel
theorem dX10_layApart_139 : decode cX10_layApart 139 = .ok (.return_, 1) := by decide +kernel
theorem dX10_round_0 : decode cX10_round 0 = .ok (.iload_n 1, 1) := by decide +kernel
theorem dX10_round_1 : decode cX10_round 1 = .ok (.invokestatic 66, 3) := by decide +kernel
theorem dX10_round_4 : decode cX10_round 4 = .ok (.ifCond .eq 10, 3) := by decide +kernel
theorem dX10_round_7 : decode cX10_round 7 = .ok (.iload_n 2, 1) := by decide +kernel
theorem dX10_round_8 : decode cX10_round 8 = .ok (.invokestatic 66, 3) := by decide +kernel
theorem dX10_round_11 : decode cX10_round 11 = .ok (.ifCond .ne 5, 3) := by decide +kernel
theorem dX10_round_14 : decode cX10_round 14 = .ok (.iconst (-1), 1) := by decide +kernel
theorem dX10_round_15 : decode cX10_round 15 = .ok (.ireturn, 1) := by decide +kernel
theorem dX10_round_16 : decode cX10_round 16 = .ok (.aload_n 0, 1) := by decide +kernel
theorem dX10_round_17 : decode cX10_round 17 = .ok (.invokevirtual 139, 3) := by decide +kernel
theorem dX10_round_20 : decode cX10_round 20 = .ok (.aload_n 0, 1) := by decide +kernel
theorem dX10_round_21 : decode cX10_round 21 = .ok (.getfield 31, 3) := by decide +kernel
theorem dX10_round_24 : decode cX10_round 24 = .ok (.bipush 7, 2) := by decide +kernel
theorem dX10_round_26 : decode cX10_round 26 = .ok (.iload_n 1, 1) := by decide +kernel
theorem dX10_round_27 : decode cX10_round 27 = .ok (.imul, 1) := by decide +kernel
theorem dX10_round_28 : decode cX10_round 28 = .ok (.iload_n 2, 1) := by decide +kernel
theorem dX10_round_29 : decode cX10_round 29 = .ok (.iadd, 1) := by decide +kernel
theorem dX10_round_30 : decode cX10_round 30 = .ok (.iaload, 1) := by decide +kernel
theorem dX10_round_31 : decode cX10_round 31 = .ok (.ldc 138, 2) := by decide +kernel
theorem dX10_round_33 : decode cX10_round 33 = .ok (.if_icmp .ge 17, 3) := by decide +kernel
theorem dX10_round_36 : decode cX10_round 36 = .ok (.aload_n 0, 1) := by decide +kernel
theorem dX10_round_37 : decode cX10_round 37 = .ok (.getfield 31, 3) := by decide +kernel
theorem dX10_round_40 : decode cX10_round 40 = .ok (.bipush 7, 2) := by decide +kernel
theorem dX10_round_42 : decode cX10_round 42 = .ok (.iload_n 1, 1) := by decide +kernel
theorem dX10_round_43 : decode cX10_round 43 = .ok (.imul, 1) := by decide +kernel
theorem dX10_round_44 : decode cX10_round 44 = .ok (.iload_n 2, 1) := by decide +kernel
theorem dX10_round_45 : decode cX10_round 45 = .ok (.iadd, 1) := by decide +kernel
theorem dX10_round_46 : decode cX10_round 46 = .ok (.iaload, 1) := by decide +kernel
theorem dX10_round_47 : decode cX10_round 47 = .ok (.goto 5, 3) := by decide +kernel
theorem dX10_round_50 : decode cX10_round 50 = .ok (.bipush (-6), 2) := by decide +kernel
theorem dX10_round_52 : decode cX10_round 52 = .ok (.ireturn, 1) := by decide +kernel
theorem dX10_mends_0 : decode cX10_mends 0 = .ok (.iload_n 1, 1) := by decide +kernel
theorem dX10_mends_1 : decode cX10_mends 1 = .ok (.invokestatic 66, 3) := by decide +kernel
theorem dX10_mends_4 : decode cX10_mends 4 = .ok (.ifCond .ne 5, 3) := by decide +kernel
theorem dX10_mends_7 : decode cX10_mends 7 = .ok (.iconst (-1), 1) := by decide +kernel
theorem dX10_mends_8 : decode cX10_mends 8 = .ok (.ireturn, 1) := by decide +kernel
theorem dX10_mends_9 : decode cX10_mends 9 = .ok (.aload_n 0, 1) := by decide +kernel
theorem dX10_mends_10 : decode cX10_mends 10 = .ok (.invokevirtual 139, 3) := by decide +kernel
theorem dX10_mends_13 : decode cX10_mends 13 = .ok (.iconst 0, 1) := by decide +kernel
theorem dX10_mends_14 : decode cX10_mends 14 = .ok (.istore_n 2, 1) := by decide +kernel
theorem dX10_mends_15 : decode cX10_mends 15 = .ok (.iconst 0, 1) := by decide +kernel
theorem dX10_mends_16 : decode cX10_mends 16 = .ok (.istore_n 3, 1) := by decide +kernel
theorem dX10_mends_17 : decode cX10_mends 17 = .ok (.iload_n 3, 1) := by decide +kernel
theorem dX10_mends_18 : decode cX10_mends 18 = .ok (.bipush 7, 2) := by decide +kernel
theorem dX10_mends_20 : decode cX10_mends 20 = .ok (.if_icmp .ge 39, 3) := by decide +kernel
theorem dX10_mends_23 : decode cX10_mends 23 = .ok (.iload_n 2, 1) := by decide +kernel
theorem dX10_mends_24 : decode cX10_mends 24 = .ok (.aload_n 0, 1) := by decide +kernel
theorem dX10_mends_25 : decode cX10_mends 25 = .ok (.getfield 7, 3) := by decide +kernel
theorem dX10_mends_28 : decode cX10_mends 28 = .ok (.bipush 7, 2) := by decide +kernel
theorem dX10_mends_30 : decode cX10_mends 30 = .ok (.iload_n 1, 1) := by decide +kernel
theorem dX10_mends_31 : decode cX10_mends 31 = .ok (.imul, 1) := by decide +kernel
theorem dX10_mends_32 : decode cX10_mends 32 = .ok (.iload_n 3, 1) := by decide +kernel
theorem dX10_mends_33 : decode cX10_mends 33 = .ok (.iadd, 1) := by decide +kernel
theorem dX10_mends_34 : decode cX10_mends 34 = .ok (.iaload, 1) := by decide +kernel
theorem dX10_mends_35 : decode cX10_mends 35 = .ok (.iconst 0, 1) := by decide +kernel
theorem dX10_mends_36 : decode cX10_mends 36 = .ok (.bipush 8, 2) := by decide +kernel
theorem dX10_mends_38 : decode cX10_mends 38 = .ok (.invokestatic 62, 3) := by decide +kernel
theorem dX10_mends_41 : decode cX10_mends 41 = .ok (.ifCond .eq 9, 3) := by decide +kernel
theorem dX10_mends_44 : decode cX10_mends 44 = .ok (.iconst 1, 1) := by decide +kernel
theorem dX10_mends_45 : decode cX10_mends 45 = .ok (.iload_n 3, 1) := by decide +kernel
theorem dX10_mends_46 : decode cX10_mends 46 = .ok (.ishl, 1) := by decide +kernel
theorem dX10_mends_47 : decode cX10_mends 47 = .ok (.goto 4, 3) := by decide +kernel
theorem dX10_mends_50 : decode cX10_mends 50 = .ok (.iconst 0, 1) := by decide +kernel
theorem dX10_mends_51 : decode cX10_mends 51 = .ok (.ior, 1) := by decide +kernel
theorem dX10_mends_52 : decode cX10_mends 52 = .ok (.istore_n 2, 1) := by decide +kernel
theorem dX10_mends_53 : decode cX10_mends 53 = .ok (.iinc 3 1, 3) := by decide +kernel
theorem dX10_mends_56 : decode cX10_mends 56 = .ok (.goto (-39), 3) := by decide +kernel
theorem dX10_mends_59 : decode cX10_mends 59 = .ok (.iconst 1, 1) := by decide +kernel
theorem dX10_mends_60 : decode cX10_mends 60 = .ok (.istore_n 3, 1) := by decide +kernel
theorem dX10_mends_61 : decode cX10_mends 61 = .ok (.iload_n 3, 1) := by decide +kernel
theorem dX10_mends_62 : decode cX10_mends 62 = .ok (.iload_n 2, 1) := by decide +kernel
theorem dX10_mends_63 : decode cX10_mends 63 = .ok (.if_icmp .gt 172, 3) := by decide +kernel
theorem dX10_mends_66 : decode cX10_mends 66 = .ok (.iconst 0, 1) := by decide +kernel
theorem dX10_mends_67 : decode cX10_mends 67 = .ok (.istore 4, 2) := by decide +kernel
theorem dX10_mends_69 : decode cX10_mends 69 = .ok (.iload 4, 2) := by decide +kernel
theorem dX10_mends_71 : decode cX10_mends 71 = .ok (.bipush 7, 2) := by decide +kernel
theorem dX10_mends_73 : decode cX10_mends 73 = .ok (.if_icmp .ge 156, 3) := by decide +kernel
theorem dX10_mends_76 : decode cX10_mends 76 = .ok (.iload_n 3, 1) := by decide +kernel
theorem dX10_mends_77 : decode cX10_mends 77 = .ok (.iconst 1, 1) := by decide +kernel
theorem dX10_mends_78 : decode cX10_mends 78 = .ok (.iload 4, 2) := by decide +kernel
theorem dX10_mends_80 : decode cX10_mends 80 = .ok (.ishl, 1) := by decide +kernel
theorem dX10_mends_81 : decode cX10_mends 81 = .ok (.iconst (-1), 1) := by decide +kernel
theorem dX10_mends_82 : decode cX10_mends 82 = .ok (.ixor, 1) := by decide +kernel
theorem dX10_mends_83 : decode cX10_mends 83 = .ok (.iand, 1) := by decide +kernel
theorem dX10_mends_84 : decode cX10_mends 84 = .ok (.istore 5, 2) := by decide +kernel
theorem dX10_mends_86 : decode cX10_mends 86 = .ok (.iload 5, 2) := by decide +kernel
theorem dX10_mends_88 : decode cX10_mends 88 = .ok (.ifCond .ne 18, 3) := by decide +kernel
theorem dX10_mends_91 : decode cX10_mends 91 = .ok (.aload_n 0, 1) := by decide +kernel
theorem dX10_mends_92 : decode cX10_mends 92 = .ok (.getfield 31, 3) := by decide +kernel
theorem dX10_mends_95 : decode cX10_mends 95 = .ok (.bipush 7, 2) := by decide +kernel
theorem dX10_mends_97 : decode cX10_mends 97 = .ok (.iload_n 1, 1) := by decide +kernel
theorem dX10_mends_98 : decode cX10_mends 98 = .ok (.imul, 1) := by decide +kernel
theorem dX10_mends_99 : decode cX10_mends 99 = .ok (.iload 4, 2) := by decide +kernel
theorem dX10_mends_101 : decode cX10_mends 101 = .ok (.iadd, 1) := by decide +kernel
theorem dX10_mends_102 : decode cX10_mends 102 = .ok (.iaload, 1) := by decide +kernel
theorem dX10_mends_103 : decode cX10_mends 103 = .ok (.goto 5, 3) := by decide +kernel
theorem dX10_mends_106 : decode cX10_mends 106 = .ok (.ldc 138, 2) := by decide +kernel
theorem dX10_mends_108 : decode cX10_mends 108 = .ok (.istore 6, 2) := by decide +kernel
theorem dX10_mends_110 : decode cX10_mends 110 = .ok (.iconst 0, 1) := by decide +kernel
theorem dX10_mends_111 : decode cX10_mends 111 = .ok (.istore 7, 2) := by decide +kernel
theorem dX10_mends_113 : decode cX10_mends 113 = .ok (.iload 7, 2) := by decide +kernel
theorem dX10_mends_115 : decode cX10_mends 115 = .ok (.bipush 7, 2) := by decide +kernel
theorem dX10_mends_117 : decode cX10_mends 117 = .ok (.if_icmp .ge 78, 3) := by decide +kernel
theorem dX10_mends_120 : decode cX10_mends 120 = .ok (.iload_n 3, 1) := by decide +kernel
theorem dX10_mends_121 : decode cX10_mends 121 = .ok (.iload 4, 2) := by decide +kernel
theorem dX10_mends_123 : decode cX10_mends 123 = .ok (.invokestatic 142, 3) := by decide +kernel
theorem dX10_mends_126 : decode cX10_mends 126 = .ok (.ifCond .eq 69, 3) := by decide +kernel
theorem dX10_mends_129 : decode cX10_mends 129 = .ok (.iload 5, 2) := by decide +kernel
theorem dX10_mends_131 : decode cX10_mends 131 = .ok (.iload 7, 2) := by decide +kernel
theorem dX10_mends_133 : decode cX10_mends 133 = .ok (.invokestatic 142, 3) := by decide +kernel
theorem dX10_mends_136 : decode cX10_mends 136 = .ok (.ifCond .eq 33, 3) := by decide +kernel
theorem dX10_mends_139 : decode cX10_mends 139 = .ok (.aload_n 0, 1) := by decide +kernel
theorem dX10_mends_140 : decode cX10_mends 140 = .ok (.getfield 34, 3) := by decide +kernel
theorem dX10_mends_143 : decode cX10_mends 143 = .ok (.bipush 7, 2) := by decide +kernel
theorem dX10_mends_145 : decode cX10_mends 145 = .ok (.iload 5, 2) := by decide +kernel
theorem dX10_mends_147 : decode cX10_mends 147 = .ok (.imul, 1) := by decide +kernel
theorem dX10_mends_148 : decode cX10_mends 148 = .ok (.iload 7, 2) := by decide +kernel
theorem dX10_mends_150 : decode cX10_mends 150 = .ok (.iadd, 1) := by decide +kernel
theorem dX10_mends_151 : decode cX10_mends 151 = .ok (.iaload, 1) := by decide +kernel
theorem dX10_mends_152 : decode cX10_mends 152 = .ok (.aload_n 0, 1) := by decide +kernel
theorem dX10_mends_153 : decode cX10_mends 153 = .ok (.getfield 31, 3) := by decide +kernel
theorem dX10_mends_156 : decode cX10_mends 156 = .ok (.bipush 7, 2) := by decide +kernel
theorem dX10_mends_158 : decode cX10_mends 158 = .ok (.iload 7, 2) := by decide +kernel
theorem dX10_mends_160 : decode cX10_mends 160 = .ok (.imul, 1) := by decide +kernel
theorem dX10_mends_161 : decode cX10_mends 161 = .ok (.iload 4, 2) := by decide +kernel
theorem dX10_mends_163 : decode cX10_mends 163 = .ok (.iadd, 1) := by decide +kernel
theorem dX10_mends_164 : decode cX10_mends 164 = .ok (.iaload, 1) := by decide +kernel
theorem dX10_mends_165 : decode cX10_mends 165 = .ok (.iadd, 1) := by decide +kernel
theorem dX10_mends_166 : decode cX10_mends 166 = .ok (.goto 5, 3) := by decide +kernel
theorem dX10_mends_169 : decode cX10_mends 169 = .ok (.ldc 138, 2) := by decide +kernel
theorem dX10_mends_171 : decode cX10_mends 171 = .ok (.istore 8, 2) := by decide +kernel
theorem dX10_mends_173 : decode cX10_mends 173 = .ok (.iload 8, 2) := by decide +kernel
theorem dX10_mends_175 : decode cX10_mends 175 = .ok (.iload 6, 2) := by decide +kernel
theorem dX10_mends_177 : decode cX10_mends 177 = .ok (.if_icmp .ge 8, 3) := by decide +kernel
theorem dX10_mends_180 : decode cX10_mends 180 = .ok (.iload 8, 2) := by decide +kernel
theorem dX10_mends_182 : decode cX10_mends 182 = .ok (.goto 5, 3) := by decide +kernel
theorem dX10_mends_185 : decode cX10_mends 185 = .ok (.iload 6, 2) := by decide +kernel
theorem dX10_mends_187 : decode cX10_mends 187 = .ok (.istore 6, 2) := by decide +kernel
theorem dX10_mends_189 : decode cX10_mends 189 = .ok (.iinc 7 1, 3) := by decide +kernel
theorem dX10_mends_192 : decode cX10_mends 192 = .ok (.goto (-79), 3) := by decide +kernel
theorem dX10_mends_195 : decode cX10_mends 195 = .ok (.aload_n 0, 1) := by decide +kernel
theorem dX10_mends_196 : decode cX10_mends 196 = .ok (.getfield 34, 3) := by decide +kernel
theorem dX10_mends_199 : decode cX10_mends 199 = .ok (.bipush 7, 2) := by decide +kernel
theorem dX10_mends_201 : decode cX10_mends 201 = .ok (.iload_n 3, 1) := by decide +kernel
theorem dX10_mends_202 : decode cX10_mends 202 = .ok (.imul, 1) := by decide +kernel
theorem dX10_mends_203 : decode cX10_mends 203 = .ok (.iload 4, 2) := by decide +kernel
theorem dX10_mends_205 : decode cX10_mends 205 = .ok (.iadd, 1) := by decide +kernel
theorem dX10_mends_206 : decode cX10_mends 206 = .ok (.iload_n 3, 1) := by decide +kernel
theorem dX10_mends_207 : decode cX10_mends 207 = .ok (.iload 4, 2) := by decide +kernel
theorem dX10_mends_209 : decode cX10_mends 209 = .ok (.invokestatic 142, 3) := by decide +kernel
theorem dX10_mends_212 : decode cX10_mends 212 = .ok (.ifCond .eq 8, 3) := by decide +kernel
theorem dX10_mends_215 : decode cX10_mends 215 = .ok (.iload 6, 2) := by decide +kernel
theorem dX10_mends_217 : decode cX10_mends 217 = .ok (.goto 5, 3) := by decide +kernel
theorem dX10_mends_220 : decode cX10_mends 220 = .ok (.ldc 138, 2) := by decide +kernel
theorem dX10_mends_222 : decode cX10_mends 222 = .ok (.iastore, 1) := by decide +kernel
theorem dX10_mends_223 : decode cX10_mends 223 = .ok (.iinc 4 1, 3) := by decide +kernel
theorem dX10_mends_226 : decode cX10_mends 226 = .ok (.goto (-157), 3) := by decide +kernel
theorem dX10_mends_229 : decode cX10_mends 229 = .ok (.iinc 3 1, 3) := by decide +kernel
theorem dX10_mends_232 : decode cX10_mends 232 = .ok (.goto (-171), 3) := by decide +kernel
theorem dX10_mends_235 : decode cX10_mends 235 = .ok (.iload_n 2, 1) := by decide +kernel
theorem dX10_mends_236 : decode cX10_mends 236 = .ok (.ifCond .ne 7, 3) := by decide +kernel
theorem dX10_mends_239 : decode cX10_mends 239 = .ok (.iconst 0, 1) := by decide +kernel
theorem dX10_mends_240 : decode cX10_mends 240 = .ok (.goto 5, 3) := by decide +kernel
theorem dX10_mends_243 : decode cX10_mends 243 = .ok (.ldc 138, 2) := by decide +kernel
theorem dX10_mends_245 : decode cX10_mends 245 = .ok (.istore_n 3, 1) := by decide +kernel
theorem dX10_mends_246 : decode cX10_mends 246 = .ok (.iconst 0, 1) := by decide +kernel
theorem dX10_mends_247 : decode cX10_mends 247 = .ok (.istore 4, 2) := by decide +kernel
theorem dX10_mends_249 : decode cX10_mends 249 = .ok (.iload 4, 2) := by decide +kernel
theorem dX10_mends_251 : decode cX10_mends 251 = .ok (.bipush 7, 2) := by decide +kernel
theorem dX10_mends_253 : decode cX10_mends 253 = .ok (.if_icmp .ge 63, 3) := by decide +kernel
theorem dX10_mends_256 : decode cX10_mends 256 = .ok (.iload_n 2, 1) := by decide +kernel
theorem dX10_mends_257 : decode cX10_mends 257 = .ok (.iload 4, 2) := by decide +kernel
theorem dX10_mends_259 : decode cX10_mends 259 = .ok (.invokestatic 142, 3) := by decide +kernel
theorem dX10_mends_262 : decode cX10_mends 262 = .ok (.ifCond .eq 31, 3) := by decide +kernel
theorem dX10_mends_265 : decode cX10_mends 265 = .ok (.aload_n 0, 1) := by decide +kernel
theorem dX10_mends_266 : decode cX10_mends 266 = .ok (.getfield 34, 3) := by decide +kernel
theorem dX10_mends_269 : decode cX10_mends 269 = .ok (.bipush 7, 2) := by decide +kernel
theorem dX10_mends_271 : decode cX10_mends 271 = .ok (.iload_n 2, 1) := by decide +kernel
theorem dX10_mends_272 : decode cX10_mends 272 = .ok (.imul, 1) := by decide +kernel
theorem dX10_mends_273 : decode cX10_mends 273 = .ok (.iload 4, 2) := by decide +kernel
theorem dX10_mends_275 : decode cX10_mends 275 = .ok (.iadd, 1) := by decide +kernel
theorem dX10_mends_276 : decode cX10_mends 276 = .ok (.iaload, 1) := by decide +kernel
theorem dX10_mends_277 : decode cX10_mends 277 = .ok (.aload_n 0, 1) := by decide +kernel
theorem dX10_mends_278 : decode cX10_mends 278 = .ok (.getfield 31, 3) := by decide +kernel
theorem dX10_mends_281 : decode cX10_mends 281 = .ok (.bipush 7, 2) := by decide +kernel
theorem dX10_mends_283 : decode cX10_mends 283 = .ok (.iload 4, 2) := by decide +kernel
theorem dX10_mends_285 : decode cX10_mends 285 = .ok (.imul, 1) := by decide +kernel
theorem dX10_mends_286 : decode cX10_mends 286 = .ok (.iload_n 1, 1) := by decide +kernel
theorem dX10_mends_287 : decode cX10_mends 287 = .ok (.iadd, 1) := by decide +kernel
theorem dX10_mends_288 : decode cX10_mends 288 = .ok (.iaload, 1) := by decide +kernel
theorem dX10_mends_289 : decode cX10_mends 289 = .ok (.iadd, 1) := by decide +kernel
theorem dX10_mends_290 : decode cX10_mends 290 = .ok (.goto 5, 3) := by decide +kernel
theorem dX10_mends_293 : decode cX10_mends 293 = .ok (.ldc 138, 2) := by decide +kernel
theorem dX10_mends_295 : decode cX10_mends 295 = .ok (.istore 5, 2) := by decide +kernel
theorem dX10_mends_297 : decode cX10_mends 297 = .ok (.iload 5, 2) := by decide +kernel
theorem dX10_mends_299 : decode cX10_mends 299 = .ok (.iload_n 3, 1) := by decide +kernel
theorem dX10_mends_300 : decode cX10_mends 300 = .ok (.if_icmp .ge 8, 3) := by decide +kernel
theorem dX10_mends_303 : decode cX10_mends 303 = .ok (.iload 5, 2) := by decide +kernel
theorem dX10_mends_305 : decode cX10_mends 305 = .ok (.goto 4, 3) := by decide +kernel
theorem dX10_mends_308 : decode cX10_mends 308 = .ok (.iload_n 3, 1) := by decide +kernel
theorem dX10_mends_309 : decode cX10_mends 309 = .ok (.istore_n 3, 1) := by decide +kernel
theorem dX10_mends_310 : decode cX10_mends 310 = .ok (.iinc 4 1, 3) := by decide +kernel
theorem dX10_mends_313 : decode cX10_mends 313 = .ok (.goto (-64), 3) := by decide +kernel
theorem dX10_mends_316 : decode cX10_mends 316 = .ok (.iload_n 3, 1) := by decide +kernel
theorem dX10_mends_317 : decode cX10_mends 317 = .ok (.ldc 138, 2) := by decide +kernel
theorem dX10_mends_319 : decode cX10_mends 319 = .ok (.if_icmp .ge 7, 3) := by decide +kernel
theorem dX10_mends_322 : decode cX10_mends 322 = .ok (.iload_n 3, 1) := by decide +kernel
theorem dX10_mends_323 : decode cX10_mends 323 = .ok (.goto 5, 3) := by decide +kernel
theorem dX10_mends_326 : decode cX10_mends 326 = .ok (.bipush (-6), 2) := by decide +kernel
theorem dX10_mends_328 : decode cX10_mends 328 = .ok (.ireturn, 1) := by decide +kernel
theorem dX10_placeOf_0 : decode cX10_placeOf 0 = .ok (.iconst 0, 1) := by decide +kernel
theorem dX10_placeOf_1 : decode cX10_placeOf 1 = .ok (.istore 4, 2) := by decide +kernel
theorem dX10_placeOf_3 : decode cX10_placeOf 3 = .ok (.aload_n 0, 1) := by decide +kernel
theorem dX10_placeOf_4 : decode cX10_placeOf 4 = .ok (.getfield 19, 3) := by decide +kernel
theorem dX10_placeOf_7 : decode cX10_placeOf 7 = .ok (.bipush 16, 2) := by decide +kernel
theorem dX10_placeOf_9 : decode cX10_placeOf 9 = .ok (.iload_n 1, 1) := by decide +kernel
theorem dX10_placeOf_10 : decode cX10_placeOf 10 = .ok (.imul, 1) := by decide +kernel
theorem dX10_placeOf_11 : decode cX10_placeOf 11 = .ok (.iconst 4, 1) := by decide +kernel
theorem dX10_placeOf_12 : decode cX10_placeOf 12 = .ok (.iload_n 2, 1) := by decide +kernel
theorem dX10_placeOf_13 : decode cX10_placeOf 13 = .ok (.imul, 1) := by decide +kernel
theorem dX10_placeOf_14 : decode cX10_placeOf 14 = .ok (.iadd, 1) := by decide +kernel
theorem dX10_placeOf_15 : decode cX10_placeOf 15 = .ok (.iload 4, 2) := by decide +kernel
theorem dX10_placeOf_17 : decode cX10_placeOf 17 = .ok (.iadd, 1) := by decide +kernel
theorem dX10_placeOf_18 : decode cX10_placeOf 18 = .ok (.iaload, 1) := by decide +kernel
theorem dX10_placeOf_19 : decode cX10_placeOf 19 = .ok (.iload_n 3, 1) := by decide +kernel
theorem dX10_placeOf_20 : decode cX10_placeOf 20 = .ok (.if_icmp .eq 9, 3) := by decide +kernel
theorem dX10_placeOf_23 : decode cX10_placeOf 23 = .ok (.iinc 4 1, 3) := by decide +kernel
theorem dX10_placeOf_26 : decode cX10_placeOf 26 = .ok (.goto (-23), 3) := by decide +kernel
theorem dX10_placeOf_29 : decode cX10_placeOf 29 = .ok (.iload 4, 2) := by decide +kernel
theorem dX10_placeOf_31 : decode cX10_placeOf 31 = .ok (.ireturn, 1) := by decide +kernel
theorem dX10_isSteady_0 : decode cX10_isSteady 0 = .ok (.iconst 1, 1) := by decide +kernel
theorem dX10_isSteady_1 : decode cX10_isSteady 1 = .ok (.istore_n 1, 1) := by decide +kernel
theorem dX10_isSteady_2 : decode cX10_isSteady 2 = .ok (.iconst 0, 1) := by decide +kernel
theorem dX10_isSteady_3 : decode cX10_isSteady 3 = .ok (.istore_n 2, 1) := by decide +kernel
theorem dX10_isSteady_4 : decode cX10_isSteady 4 = .ok (.iload_n 2, 1) := by decide +kernel
theorem dX10_isSteady_5 : decode cX10_isSteady 5 = .ok (.iconst 4, 1) := by decide +kernel
theorem dX10_isSteady_6 : decode cX10_isSteady 6 = .ok (.if_icmp .ge 76, 3) := by decide +kernel
theorem dX10_isSteady_9 : decode cX10_isSteady 9 = .ok (.iconst 0, 1) := by decide +kernel
theorem dX10_isSteady_10 : decode cX10_isSteady 10 = .ok (.istore_n 3, 1) := by decide +kernel
theorem dX10_isSteady_11 : decode cX10_isSteady 11 = .ok (.iload_n 3, 1) := by decide +kernel
theorem dX10_isSteady_12 : decode cX10_isSteady 12 = .ok (.iconst 4, 1) := by decide +kernel
theorem dX10_isSteady_13 : decode cX10_isSteady 13 = .ok (.if_icmp .ge 63, 3) := by decide +kernel
theorem dX10_isSteady_16 : decode cX10_isSteady 16 = .ok (.iload_n 1, 1) := by decide +kernel
theorem dX10_isSteady_17 : decode cX10_isSteady 17 = .ok (.ifCond .eq 51, 3) := by decide +kernel
theorem dX10_isSteady_20 : decode cX10_isSteady 20 = .ok (.aload_n 0, 1) := by decide +kernel
theorem dX10_isSteady_21 : decode cX10_isSteady 21 = .ok (.iconst 0, 1) := by decide +kernel
theorem dX10_isSteady_22 : decode cX10_isSteady 22 = .ok (.iload_n 2, 1) := by decide +kernel
theorem dX10_isSteady_23 : decode cX10_isSteady 23 = .ok (.iload_n 3, 1) := by decide +kernel
theorem dX10_isSteady_24 : decode cX10_isSteady 24 = .ok (.invokevirtual 146, 3) := by decide +kernel
theorem dX10_isSteady_27 : decode cX10_isSteady 27 = .ok (.aload_n 0, 1) := by decide +kernel
theorem dX10_isSteady_28 : decode cX10_isSteady 28 = .ok (.iconst 0, 1) := by decide +kernel
theorem dX10_isSteady_29 : decode cX10_isSteady 29 = .ok (.iload_n 2, 1) := by decide +kernel
theorem dX10_isSteady_30 : decode cX10_isSteady 30 = .ok (.aload_n 0, 1) := by decide +kernel
theorem dX10_isSteady_31 : decode cX10_isSteady 31 = .ok (.getfield 37, 3) := by decide +kernel
theorem dX10_isSteady_34 : decode cX10_isSteady 34 = .ok (.iload_n 2, 1) := by decide +kernel
theorem dX10_isSteady_35 : decode cX10_isSteady 35 = .ok (.iaload, 1) := by decide +kernel
theorem dX10_isSteady_36 : decode cX10_isSteady 36 = .ok (.invokevirtual 146, 3) := by decide +kernel
theorem dX10_isSteady_39 : decode cX10_isSteady 39 = .ok (.if_icmp .ge 25, 3) := by decide +kernel
theorem dX10_isSteady_42 : decode cX10_isSteady 42 = .ok (.aload_n 0, 1) := by decide +kernel
theorem dX10_isSteady_43 : decode cX10_isSteady 43 = .ok (.iconst 1, 1) := by decide +kernel
theorem dX10_isSteady_44 : decode cX10_isSteady 44 = .ok (.iload_n 3, 1) := by decide +kernel
theorem dX10_isSteady_45 : decode cX10_isSteady 45 = .ok (.iload_n 2, 1) := by decide +kernel
theorem dX10_isSteady_46 : decode cX10_isSteady 46 = .ok (.invokevirtual 146, 3) := by decide +kernel
theorem dX10_isSteady_49 : decode cX10_isSteady 49 = .ok (.aload_n 0, 1) := by decide +kernel
theorem dX10_isSteady_50 : decode cX10_isSteady 50 = .ok (.iconst 1, 1) := by decide +kernel
theorem dX10_isSteady_51 : decode cX10_isSteady 51 = .ok (.iload_n 3, 1) := by decide +kernel
theorem dX10_isSteady_52 : decode cX10_isSteady 52 = .ok (.aload_n 0, 1) := by decide +kernel
theorem dX10_isSteady_53 : decode cX10_isSteady 53 = .ok (.getfield 40, 3) := by decide +kernel
theorem dX10_isSteady_56 : decode cX10_isSteady 56 = .ok (.iload_n 3, 1) := by decide +kernel
theorem dX10_isSteady_57 : decode cX10_isSteady 57 = .ok (.iaload, 1) := by decide +kernel
theorem dX10_isSteady_58 : decode cX10_isSteady 58 = .ok (.invokevirtual 146, 3) := by decide +kernel
theorem dX10_isSteady_61 : decode cX10_isSteady 61 = .ok (.if_icmp .lt 7, 3) := by decide +kernel
theorem dX10_isSteady_64 : decode cX10_isSteady 64 = .ok (.iconst 1, 1) := by decide +kernel
theorem dX10_isSteady_65 : decode cX10_isSteady 65 = .ok (.goto 4, 3) := by decide +kernel
theorem dX10_isSteady_68 : decode cX10_isSteady 68 = .ok (.iconst 0, 1) := by decide +kernel
theorem dX10_isSteady_69 : decode cX10_isSteady 69 = .ok (.istore_n 1, 1) := by decide +kernel
theorem dX10_isSteady_70 : decode cX10_isSteady 70 = .ok (.iinc 3 1, 3) := by decide +kernel
theorem dX10_isSteady_73 : decode cX10_isSteady 73 = .ok (.goto (-62), 3) := by decide +kernel
theorem dX10_isSteady_76 : decode cX10_isSteady 76 = .ok (.iinc 2 1, 3) := by decide +kernel
theorem dX10_isSteady_79 : decode cX10_isSteady 79 = .ok (.goto (-75), 3) := by decide +kernel
theorem dX10_isSteady_82 : decode cX10_isSteady 82 = .ok (.iload_n 1, 1) := by decide +kernel
theorem dX10_isSteady_83 : decode cX10_isSteady 83 = .ok (.ireturn, 1) := by decide +kernel
theorem dX10_laySteady_0 : decode cX10_laySteady 0 = .ok (.iconst 0, 1) := by decide +kernel
theorem dX10_laySteady_1 : decode cX10_laySteady 1 = .ok (.istore_n 2, 1) := by decide +kernel
theorem dX10_laySteady_2 : decode cX10_laySteady 2 = .ok (.ldc 138, 2) := by decide +kernel
theorem dX10_laySteady_4 : decode cX10_laySteady 4 = .ok (.istore_n 3, 1) := by decide +kernel
theorem dX10_laySteady_5 : decode cX10_laySteady 5 = .ok (.iconst 0, 1) := by decide +kernel
theorem dX10_laySteady_6 : decode cX10_laySteady 6 = .ok (.istore 4, 2) := by decide +kernel
theorem dX10_laySteady_8 : decode cX10_laySteady 8 = .ok (.iload 4, 2) := by decide +kernel
theorem dX10_laySteady_10 : decode cX10_laySteady 10 = .ok (.sipush 256, 3) := by decide +kernel
theorem dX10_laySteady_13 : decode cX10_laySteady 13 = .ok (.if_icmp .ge 179, 3) := by decide +kernel
theorem dX10_laySteady_16 : decode cX10_laySteady 16 = .ok (.iconst 0, 1) := by decide +kernel
theorem dX10_laySteady_17 : decode cX10_laySteady 17 = .ok (.istore 5, 2) := by decide +kernel
theorem dX10_laySteady_19 : decode cX10_laySteady 19 = .ok (.iconst 0, 1) := by decide +kernel
theorem dX10_laySteady_20 : decode cX10_laySteady 20 = .ok (.istore 6, 2) := by decide +kernel
theorem dX10_laySteady_22 : decode cX10_laySteady 22 = .ok (.iconst 0, 1) := by decide +kernel
theorem dX10_laySteady_23 : decode cX10_laySteady 23 = .ok (.istore 7, 2) := by decide +kernel
theorem dX10_laySteady_25 : decode cX10_laySteady 25 = .ok (.iload 7, 2) := by decide +kernel
theorem dX10_laySteady_27 : decode cX10_laySteady 27 = .ok (.iconst 4, 1) := by decide +kernel
theorem dX10_laySteady_28 : decode cX10_laySteady 28 = .ok (.if_icmp .ge 93, 3) := by decide +kernel
theorem dX10_laySteady_31 : decode cX10_laySteady 31 = .ok (.aload_n 0, 1) := by decide +kernel
theorem dX10_laySteady_32 : decode cX10_laySteady 32 = .ok (.getfield 37, 3) := by decide +kernel
theorem dX10_laySteady_35 : decode cX10_laySteady 35 = .ok (.iload 7, 2) := by decide +kernel
theorem dX10_laySteady_37 : decode cX10_laySteady 37 = .ok (.iload 4, 2) := by decide +kernel
theorem dX10_laySteady_39 : decode cX10_laySteady 39 = .ok (.iconst 2, 1) := by decide +kernel
theorem dX10_laySteady_40 : decode cX10_laySteady 40 = .ok (.iload 7, 2) := by decide +kernel
theorem dX10_laySteady_42 : decode cX10_laySteady 42 = .ok (.imul, 1) := by decide +kernel
theorem dX10_laySteady_43 : decode cX10_laySteady 43 = .ok (.ishr, 1) := by decide +kernel
theorem dX10_laySteady_44 : decode cX10_laySteady 44 = .ok (.iconst 3, 1) := by decide +kernel
theorem dX10_laySteady_45 : decode cX10_laySteady 45 = .ok (.iand, 1) := by decide +kernel
theorem dX10_laySteady_46 : decode cX10_laySteady 46 = .ok (.iastore, 1) := by decide +kernel
theorem dX10_laySteady_47 : decode cX10_laySteady 47 = .ok (.aload_n 0, 1) := by decide +kernel
theorem dX10_laySteady_48 : decode cX10_laySteady 48 = .ok (.getfield 40, 3) := by decide +kernel
theorem dX10_laySteady_51 : decode cX10_laySteady 51 = .ok (.aload_n 0, 1) := by decide +kernel
theorem dX10_laySteady_52 : decode cX10_laySteady 52 = .ok (.getfield 37, 3) := by decide +kernel
theorem dX10_laySteady_55 : decode cX10_laySteady 55 = .ok (.iload 7, 2) := by decide +kernel
theorem dX10_laySteady_57 : decode cX10_laySteady 57 = .ok (.iaload, 1) := by decide +kernel
theorem dX10_laySteady_58 : decode cX10_laySteady 58 = .ok (.iload 7, 2) := by decide +kernel
theorem dX10_laySteady_60 : decode cX10_laySteady 60 = .ok (.iastore, 1) := by decide +kernel
theorem dX10_laySteady_61 : decode cX10_laySteady 61 = .ok (.iload 5, 2) := by decide +kernel
theorem dX10_laySteady_63 : decode cX10_laySteady 63 = .ok (.iconst 1, 1) := by decide +kernel
theorem dX10_laySteady_64 : decode cX10_laySteady 64 = .ok (.aload_n 0, 1) := by decide +kernel
theorem dX10_laySteady_65 : decode cX10_laySteady 65 = .ok (.getfield 37, 3) := by decide +kernel
theorem dX10_laySteady_68 : decode cX10_laySteady 68 = .ok (.iload 7, 2) := by decide +kernel
theorem dX10_laySteady_70 : decode cX10_laySteady 70 = .ok (.iaload, 1) := by decide +kernel
theorem dX10_laySteady_71 : decode cX10_laySteady 71 = .ok (.ishl, 1) := by decide +kernel
theorem dX10_laySteady_72 : decode cX10_laySteady 72 = .ok (.ior, 1) := by decide +kernel
theorem dX10_laySteady_73 : decode cX10_laySteady 73 = .ok (.istore 5, 2) := by decide +kernel
theorem dX10_laySteady_75 : decode cX10_laySteady 75 = .ok (.iload 6, 2) := by decide +kernel
theorem dX10_laySteady_77 : decode cX10_laySteady 77 = .ok (.iload_n 1, 1) := by decide +kernel
theorem dX10_laySteady_78 : decode cX10_laySteady 78 = .ok (.ifCond .ne 20, 3) := by decide +kernel
theorem dX10_laySteady_81 : decode cX10_laySteady 81 = .ok (.aload_n 0, 1) := by decide +kernel
theorem dX10_laySteady_82 : decode cX10_laySteady 82 = .ok (.iconst 0, 1) := by decide +kernel
theorem dX10_laySteady_83 : decode cX10_laySteady 83 = .ok (.iload 7, 2) := by decide +kernel
theorem dX10_laySteady_85 : decode cX10_laySteady 85 = .ok (.aload_n 0, 1) := by decide +kernel
theorem dX10_laySteady_86 : decode cX10_laySteady 86 = .ok (.getfield 37, 3) := by decide +kernel
theorem dX10_laySteady_89 : decode cX10_laySteady 89 = .ok (.iload 7, 2) := by decide +kernel
theorem dX10_laySteady_91 : decode cX10_laySteady 91 = .ok (.iaload, 1) := by decide +kernel
theorem dX10_laySteady_92 : decode cX10_laySteady 92 = .ok (.invokevirtual 146, 3) := by decide +kernel
theorem dX10_laySteady_95 : decode cX10_laySteady 95 = .ok (.goto 17, 3) := by decide +kernel
theorem dX10_laySteady_98 : decode cX10_laySteady 98 = .ok (.aload_n 0, 1) := by decide +kernel
theorem dX10_laySteady_99 : decode cX10_laySteady 99 = .ok (.iconst 1, 1) := by decide +kernel
theorem dX10_laySteady_100 : decode cX10_laySteady 100 = .ok (.aload_n 0, 1) := by decide +kernel
theorem dX10_laySteady_101 : decode cX10_laySteady 101 = .ok (.getfield 37, 3) := by decide +kernel
theorem dX10_laySteady_104 : decode cX10_laySteady 104 = .ok (.iload 7, 2) := by decide +kernel
theorem dX10_laySteady_106 : decode cX10_laySteady 106 = .ok (.iaload, 1) := by decide +kernel
theorem dX10_laySteady_107 : decode cX10_laySteady 107 = .ok (.iload 7, 2) := by decide +kernel
theorem dX10_laySteady_109 : decode cX10_laySteady 109 = .ok (.invokevirtual 146, 3) := by decide +kernel
theorem dX10_laySteady_112 : decode cX10_laySteady 112 = .ok (.iadd, 1) := by decide +kernel
theorem dX10_laySteady_113 : decode cX10_laySteady 113 = .ok (.istore 6, 2) := by decide +kernel
theorem dX10_laySteady_115 : decode cX10_laySteady 115 = .ok (.iinc 7 1, 3) := by decide +kernel
theorem dX10_laySteady_118 : decode cX10_laySteady 118 = .ok (.goto (-93), 3) := by decide +kernel
theorem dX10_laySteady_121 : decode cX10_laySteady 121 = .ok (.iload 5, 2) := by decide +kernel
theorem dX10_laySteady_123 : decode cX10_laySteady 123 = .ok (.bipush 15, 2) := by decide +kernel
theorem dX10_laySteady_125 : decode cX10_laySteady 125 = .ok (.if_icmp .ne 61, 3) := by decide +kernel
theorem dX10_laySteady_128 : decode cX10_laySteady 128 = .ok (.aload_n 0, 1) := by decide +kernel
theorem dX10_laySteady_129 : decode cX10_laySteady 129 = .ok (.invokevirtual 150, 3) := by decide +kernel
theorem dX10_laySteady_132 : decode cX10_laySteady 132 = .ok (.ifCond .eq 54, 3) := by decide +kernel
theorem dX10_laySteady_135 : decode cX10_laySteady 135 = .ok (.iinc 2 1, 3) := by decide +kernel
theorem dX10_laySteady_138 : decode cX10_laySteady 138 = .ok (.iconst 0, 1) := by decide +kernel
theorem dX10_laySteady_139 : decode cX10_laySteady 139 = .ok (.istore 7, 2) := by decide +kernel
theorem dX10_laySteady_141 : decode cX10_laySteady 141 = .ok (.iload 7, 2) := by decide +kernel
theorem dX10_laySteady_143 : decode cX10_laySteady 143 = .ok (.iconst 4, 1) := by decide +kernel
theorem dX10_laySteady_144 : decode cX10_laySteady 144 = .ok (.if_icmp .ge 29, 3) := by decide +kernel
theorem dX10_laySteady_147 : decode cX10_laySteady 147 = .ok (.iload 6, 2) := by decide +kernel
theorem dX10_laySteady_149 : decode cX10_laySteady 149 = .ok (.iload_n 3, 1) := by decide +kernel
theorem dX10_laySteady_150 : decode cX10_laySteady 150 = .ok (.if_icmp .ge 23, 3) := by decide +kernel
theorem dX10_laySteady_153 : decode cX10_laySteady 153 = .ok (.aload_n 0, 1) := by decide +kernel
theorem dX10_laySteady_154 : decode cX10_laySteady 154 = .ok (.getfield 43, 3) := by decide +kernel
theorem dX10_laySteady_157 : decode cX10_laySteady 157 = .ok (.iload 7, 2) := by decide +kernel
theorem dX10_laySteady_159 : decode cX10_laySteady 159 = .ok (.aload_n 0, 1) := by decide +kernel
theorem dX10_laySteady_160 : decode cX10_laySteady 160 = .ok (.getfield 37, 3) := by decide +kernel
theorem dX10_laySteady_163 : decode cX10_laySteady 163 = .ok (.iload 7, 2) := by decide +kernel
theorem dX10_laySteady_165 : decode cX10_laySteady 165 = .ok (.iaload, 1) := by decide +kernel
theorem dX10_laySteady_166 : decode cX10_laySteady 166 = .ok (.iastore, 1) := by decide +kernel
theorem dX10_laySteady_167 : decode cX10_laySteady 167 = .ok (.iinc 7 1, 3) := by decide +kernel
theorem dX10_laySteady_170 : decode cX10_laySteady 170 = .ok (.goto (-29), 3) := by decide +kernel
theorem dX10_laySteady_173 : decode cX10_laySteady 173 = .ok (.iload 6, 2) := by decide +kernel
theorem dX10_laySteady_175 : decode cX10_laySteady 175 = .ok (.iload_n 3, 1) := by decide +kernel
theorem dX10_laySteady_176 : decode cX10_laySteady 176 = .ok (.if_icmp .ge 8, 3) := by decide +kernel
theorem dX10_laySteady_179 : decode cX10_laySteady 179 = .ok (.iload 6, 2) := by decide +kernel
theorem dX10_laySteady_181 : decode cX10_laySteady 181 = .ok (.goto 4, 3) := by decide +kernel
theorem dX10_laySteady_184 : decode cX10_laySteady 184 = .ok (.iload_n 3, 1) := by decide +kernel
theorem dX10_laySteady_185 : decode cX10_laySteady 185 = .ok (.istore_n 3, 1) := by decide +kernel
theorem dX10_laySteady_186 : decode cX10_laySteady 186 = .ok (.iinc 4 1, 3) := by decide +kernel
theorem dX10_laySteady_189 : decode cX10_laySteady 189 = .ok (.goto (-181), 3) := by decide +kernel
theorem dX10_laySteady_192 : decode cX10_laySteady 192 = .ok (.iload_n 2, 1) := by decide +kernel
theorem dX10_laySteady_193 : decode cX10_laySteady 193 = .ok (.ireturn, 1) := by decide +kernel
theorem dX10_steady_0 : decode cX10_steady 0 = .ok (.aload_n 0, 1) := by decide +kernel
theorem dX10_steady_1 : decode cX10_steady 1 = .ok (.iconst 0, 1) := by decide +kernel
theorem dX10_steady_2 : decode cX10_steady 2 = .ok (.invokevirtual 154, 3) := by decide +kernel
theorem dX10_steady_5 : decode cX10_steady 5 = .ok (.ireturn, 1) := by decide +kernel
theorem dX10_wed_0 : decode cX10_wed 0 = .ok (.iload_n 1, 1) := by decide +kernel
theorem dX10_wed_1 : decode cX10_wed 1 = .ok (.iconst 0, 1) := by decide +kernel
theorem dX10_wed_2 : decode cX10_wed 2 = .ok (.iconst 1, 1) := by decide +kernel
theorem dX10_wed_3 : decode cX10_wed 3 = .ok (.invokestatic 62, 3) := by decide +kernel
theorem dX10_wed_6 : decode cX10_wed 6 = .ok (.ifCond .eq 12, 3) := by decide +kernel
theorem dX10_wed_9 : decode cX10_wed 9 = .ok (.iload_n 2, 1) := by decide +kernel
theorem dX10_wed_10 : decode cX10_wed 10 = .ok (.iconst 0, 1) := by decide +kernel
theorem dX10_wed_11 : decode cX10_wed 11 = .ok (.iconst 3, 1) := by decide +kernel
theorem dX10_wed_12 : decode cX10_wed 12 = .ok (.invokestatic 62, 3) := by decide +kernel
theorem dX10_wed_15 : decode cX10_wed 15 = .ok (.ifCond .ne 5, 3) := by decide +kernel
theorem dX10_wed_18 : decode cX10_wed 18 = .ok (.iconst (-1), 1) := by decide +kernel
theorem dX10_wed_19 : decode cX10_wed 19 = .ok (.ireturn, 1) := by decide +kernel
theorem dX10_wed_20 : decode cX10_wed 20 = .ok (.iload_n 3, 1) := by decide +kernel
theorem dX10_wed_21 : decode cX10_wed 21 = .ok (.iconst 0, 1) := by decide +kernel
theorem dX10_wed_22 : decode cX10_wed 22 = .ok (.iconst 1, 1) := by decide +kernel
theorem dX10_wed_23 : decode cX10_wed 23 = .ok (.invokestatic 62, 3) := by decide +kernel
theorem dX10_wed_26 : decode cX10_wed 26 = .ok (.ifCond .ne 6, 3) := by decide +kernel
theorem dX10_wed_29 : decode cX10_wed 29 = .ok (.bipush (-2), 2) := by decide +kernel
theorem dX10_wed_31 : decode cX10_wed 31 = .ok (.ireturn, 1) := by decide +kernel
theorem dX10_wed_32 : decode cX10_wed 32 = .ok (.aload_n 0, 1) := by decide +kernel
theorem dX10_wed_33 : decode cX10_wed 33 = .ok (.iload_n 3, 1) := by decide +kernel
theorem dX10_wed_34 : decode cX10_wed 34 = .ok (.invokevirtual 154, 3) := by decide +kernel
theorem dX10_wed_37 : decode cX10_wed 37 = .ok (.pop, 1) := by decide +kernel
theorem dX10_wed_38 : decode cX10_wed 38 = .ok (.bipush (-6), 2) := by decide +kernel
theorem dX10_wed_40 : decode cX10_wed 40 = .ok (.istore 4, 2) := by decide +kernel
theorem dX10_wed_42 : decode cX10_wed 42 = .ok (.iconst 0, 1) := by decide +kernel
theorem dX10_wed_43 : decode cX10_wed 43 = .ok (.istore 5, 2) := by decide +kernel
theorem dX10_wed_45 : decode cX10_wed 45 = .ok (.iload 5, 2) := by decide +kernel
theorem dX10_wed_47 : decode cX10_wed 47 = .ok (.iconst 4, 1) := by decide +kernel
theorem dX10_wed_48 : decode cX10_wed 48 = .ok (.if_icmp .ge 42, 3) := by decide +kernel
theorem dX10_wed_51 : decode cX10_wed 51 = .ok (.iload_n 1, 1) := by decide +kernel
theorem dX10_wed_52 : decode cX10_wed 52 = .ok (.ifCond .ne 12, 3) := by decide +kernel
theorem dX10_wed_55 : decode cX10_wed 55 = .ok (.aload_n 0, 1) := by decide +kernel
theorem dX10_wed_56 : decode cX10_wed 56 = .ok (.getfield 43, 3) := by decide +kernel
theorem dX10_wed_59 : decode cX10_wed 59 = .ok (.iload_n 2, 1) := by decide +kernel
theorem dX10_wed_60 : decode cX10_wed 60 = .ok (.iaload, 1) := by decide +kernel
theorem dX10_wed_61 : decode cX10_wed 61 = .ok (.goto 21, 3) := by decide +kernel
theorem dX10_wed_64 : decode cX10_wed 64 = .ok (.aload_n 0, 1) := by decide +kernel
theorem dX10_wed_65 : decode cX10_wed 65 = .ok (.getfield 43, 3) := by decide +kernel
theorem dX10_wed_68 : decode cX10_wed 68 = .ok (.iload 5, 2) := by decide +kernel
theorem dX10_wed_70 : decode cX10_wed 70 = .ok (.iaload, 1) := by decide +kernel
theorem dX10_wed_71 : decode cX10_wed 71 = .ok (.iload_n 2, 1) := by decide +kernel
theorem dX10_wed_72 : decode cX10_wed 72 = .ok (.if_icmp .ne 8, 3) := by decide +kernel
theorem dX10_wed_75 : decode cX10_wed 75 = .ok (.iload 5, 2) := by decide +kernel
theorem dX10_wed_77 : decode cX10_wed 77 = .ok (.goto 5, 3) := by decide +kernel
theorem dX10_wed_80 : decode cX10_wed 80 = .ok (.iload 4, 2) := by decide +kernel
theorem dX10_wed_82 : decode cX10_wed 82 = .ok (.istore 4, 2) := by decide +kernel
theorem dX10_wed_84 : decode cX10_wed 84 = .ok (.iinc 5 1, 3) := by decide +kernel
theorem dX10_wed_87 : decode cX10_wed 87 = .ok (.goto (-42), 3) := by decide +kernel
theorem dX10_wed_90 : decode cX10_wed 90 = .ok (.iload 4, 2) := by decide +kernel
theorem dX10_wed_92 : decode cX10_wed 92 = .ok (.ireturn, 1) := by decide +kernel
theorem dX10_seen_0 : decode cX10_seen 0 = .ok (.iload_n 1, 1) := by decide +kernel
theorem dX10_seen_1 : decode cX10_seen 1 = .ok (.iconst 0, 1) := by decide +kernel
theorem dX10_seen_2 : decode cX10_seen 2 = .ok (.iconst 5, 1) := by decide +kernel
theorem dX10_seen_3 : decode cX10_seen 3 = .ok (.invokestatic 62, 3) := by decide +kernel
theorem dX10_seen_6 : decode cX10_seen 6 = .ok (.ifCond .eq 13, 3) := by decide +kernel
theorem dX10_seen_9 : decode cX10_seen 9 = .ok (.iload_n 2, 1) := by decide +kernel
theorem dX10_seen_10 : decode cX10_seen 10 = .ok (.iconst 0, 1) := by decide +kernel
theorem dX10_seen_11 : decode cX10_seen 11 = .ok (.bipush 99, 2) := by decide +kernel
theorem dX10_seen_13 : decode cX10_seen 13 = .ok (.invokestatic 62, 3) := by decide +kernel
theorem dX10_seen_16 : decode cX10_seen 16 = .ok (.ifCond .ne 6, 3) := by decide +kernel
theorem dX10_seen_19 : decode cX10_seen 19 = .ok (.bipush (-2), 2) := by decide +kernel
theorem dX10_seen_21 : decode cX10_seen 21 = .ok (.ireturn, 1) := by decide +kernel
theorem dX10_seen_22 : decode cX10_seen 22 = .ok (.aload_n 0, 1) := by decide +kernel
theorem dX10_seen_23 : decode cX10_seen 23 = .ok (.getfield 157, 3) := by decide +kernel
theorem dX10_seen_26 : decode cX10_seen 26 = .ok (.bipush 8, 2) := by decide +kernel
theorem dX10_seen_28 : decode cX10_seen 28 = .ok (.if_icmp .ne 6, 3) := by decide +kernel
theorem dX10_seen_31 : decode cX10_seen 31 = .ok (.bipush (-4), 2) := by decide +kernel
theorem dX10_seen_33 : decode cX10_seen 33 = .ok (.ireturn, 1) := by decide +kernel
theorem dX10_seen_34 : decode cX10_seen 34 = .ok (.aload_n 0, 1) := by decide +kernel
theorem dX10_seen_35 : decode cX10_seen 35 = .ok (.getfield 22, 3) := by decide +kernel
theorem dX10_seen_38 : decode cX10_seen 38 = .ok (.iconst 3, 1) := by decide +kernel
theorem dX10_seen_39 : decode cX10_seen 39 = .ok (.aload_n 0, 1) := by decide +kernel
theorem dX10_seen_40 : decode cX10_seen 40 = .ok (.getfield 157, 3) := by decide +kernel
theorem dX10_seen_43 : decode cX10_seen 43 = .ok (.imul, 1) := by decide +kernel
theorem dX10_seen_44 : decode cX10_seen 44 = .ok (.iload_n 1, 1) := by decide +kernel
theorem dX10_seen_45 : decode cX10_seen 45 = .ok (.iastore, 1) := by decide +kernel
theorem dX10_seen_46 : decode cX10_seen 46 = .ok (.aload_n 0, 1) := by decide +kernel
theorem dX10_seen_47 : decode cX10_seen 47 = .ok (.getfield 22, 3) := by decide +kernel
theorem dX10_seen_50 : decode cX10_seen 50 = .ok (.iconst 3, 1) := by decide +kernel
theorem dX10_seen_51 : decode cX10_seen 51 = .ok (.aload_n 0, 1) := by decide +kernel
theorem dX10_seen_52 : decode cX10_seen 52 = .ok (.getfield 157, 3) := by decide +kernel
theorem dX10_seen_55 : decode cX10_seen 55 = .ok (.imul, 1) := by decide +kernel
theorem dX10_seen_56 : decode cX10_seen 56 = .ok (.iconst 1, 1) := by decide +kernel
theorem dX10_seen_57 : decode cX10_seen 57 = .ok (.iadd, 1) := by decide +kernel
theorem dX10_seen_58 : decode cX10_seen 58 = .ok (.iload_n 2, 1) := by decide +kernel
theorem dX10_seen_59 : decode cX10_seen 59 = .ok (.iastore, 1) := by decide +kernel
theorem dX10_seen_60 : decode cX10_seen 60 = .ok (.aload_n 0, 1) := by decide +kernel
theorem dX10_seen_61 : decode cX10_seen 61 = .ok (.getfield 22, 3) := by decide +kernel
theorem dX10_seen_64 : decode cX10_seen 64 = .ok (.iconst 3, 1) := by decide +kernel
theorem dX10_seen_65 : decode cX10_seen 65 = .ok (.aload_n 0, 1) := by decide +kernel
theorem dX10_seen_66 : decode cX10_seen 66 = .ok (.getfield 157, 3) := by decide +kernel
theorem dX10_seen_69 : decode cX10_seen 69 = .ok (.imul, 1) := by decide +kernel
theorem dX10_seen_70 : decode cX10_seen 70 = .ok (.iconst 2, 1) := by decide +kernel
theorem dX10_seen_71 : decode cX10_seen 71 = .ok (.iadd, 1) := by decide +kernel
theorem dX10_seen_72 : decode cX10_seen 72 = .ok (.iload_n 3, 1) := by decide +kernel
theorem dX10_seen_73 : decode cX10_seen 73 = .ok (.ifCond .eq 7, 3) := by decide +kernel
theorem dX10_seen_76 : decode cX10_seen 76 = .ok (.iconst 1, 1) := by decide +kernel
theorem dX10_seen_77 : decode cX10_seen 77 = .ok (.goto 4, 3) := by decide +kernel
theorem dX10_seen_80 : decode cX10_seen 80 = .ok (.iconst 0, 1) := by decide +kernel
theorem dX10_seen_81 : decode cX10_seen 81 = .ok (.iastore, 1) := by decide +kernel
theorem dX10_seen_82 : decode cX10_seen 82 = .ok (.aload_n 0, 1) := by decide +kernel
theorem dX10_seen_83 : decode cX10_seen 83 = .ok (.dup, 1) := by decide +kernel
theorem dX10_seen_84 : decode cX10_seen 84 = .ok (.getfield 157, 3) := by decide +kernel
theorem dX10_seen_87 : decode cX10_seen 87 = .ok (.iconst 1, 1) := by decide +kernel
theorem dX10_seen_88 : decode cX10_seen 88 = .ok (.iadd, 1) := by decide +kernel
theorem dX10_seen_89 : decode cX10_seen 89 = .ok (.putfield 157, 3) := by decide +kernel
theorem dX10_seen_92 : decode cX10_seen 92 = .ok (.aload_n 0, 1) := by decide +kernel
theorem dX10_seen_93 : decode cX10_seen 93 = .ok (.getfield 157, 3) := by decide +kernel
theorem dX10_seen_96 : decode cX10_seen 96 = .ok (.ireturn, 1) := by decide +kernel
theorem dX10_forget_0 : decode cX10_forget 0 = .ok (.aload_n 0, 1) := by decide +kernel
theorem dX10_forget_1 : decode cX10_forget 1 = .ok (.getfield 157, 3) := by decide +kernel
theorem dX10_forget_4 : decode cX10_forget 4 = .ok (.istore_n 1, 1) := by decide +kernel
theorem dX10_forget_5 : decode cX10_forget 5 = .ok (.aload_n 0, 1) := by decide +kernel
theorem dX10_forget_6 : decode cX10_forget 6 = .ok (.iconst 0, 1) := by decide +kernel
theorem dX10_forget_7 : decode cX10_forget 7 = .ok (.putfield 157, 3) := by decide +kernel
theorem dX10_forget_10 : decode cX10_forget 10 = .ok (.iload_n 1, 1) := by decide +kernel
theorem dX10_forget_11 : decode cX10_forget 11 = .ok (.ireturn, 1) := by decide +kernel
theorem dX10_isDown_0 : decode cX10_isDown 0 = .ok (.iload_n 2, 1) := by decide +kernel
theorem dX10_isDown_1 : decode cX10_isDown 1 = .ok (.iload_n 0, 1) := by decide +kernel
theorem dX10_isDown_2 : decode cX10_isDown 2 = .ok (.bipush 10, 2) := by decide +kernel
theorem dX10_isDown_4 : decode cX10_isDown 4 = .ok (.idiv, 1) := by decide +kernel
theorem dX10_isDown_5 : decode cX10_isDown 5 = .ok (.iload_n 0, 1) := by decide +kernel
theorem dX10_isDown_6 : decode cX10_isDown 6 = .ok (.bipush 10, 2) := by decide +kernel
theorem dX10_isDown_8 : decode cX10_isDown 8 = .ok (.idiv, 1) := by decide +kernel
theorem dX10_isDown_9 : decode cX10_isDown 9 = .ok (.iload_n 1, 1) := by decide +kernel
theorem dX10_isDown_10 : decode cX10_isDown 10 = .ok (.iload_n 0, 1) := by decide +kernel
theorem dX10_isDown_11 : decode cX10_isDown 11 = .ok (.bipush 10, 2) := by decide +kernel
theorem dX10_isDown_13 : decode cX10_isDown 13 = .ok (.irem, 1) := by decide +kernel
theorem dX10_isDown_14 : decode cX10_isDown 14 = .ok (.imul, 1) := by decide +kernel
theorem dX10_isDown_15 : decode cX10_isDown 15 = .ok (.iadd, 1) := by decide +kernel
theorem dX10_isDown_16 : decode cX10_isDown 16 = .ok (.invokestatic 62, 3) := by decide +kernel
theorem dX10_isDown_19 : decode cX10_isDown 19 = .ok (.ireturn, 1) := by decide +kernel
theorem dX10_isFit_0 : decode cX10_isFit 0 = .ok (.iconst 1, 1) := by decide +kernel
theorem dX10_isFit_1 : decode cX10_isFit 1 = .ok (.istore_n 2, 1) := by decide +kernel
theorem dX10_isFit_2 : decode cX10_isFit 2 = .ok (.iconst 0, 1) := by decide +kernel
theorem dX10_isFit_3 : decode cX10_isFit 3 = .ok (.istore_n 3, 1) := by decide +kernel
theorem dX10_isFit_4 : decode cX10_isFit 4 = .ok (.iload_n 3, 1) := by decide +kernel
theorem dX10_isFit_5 : decode cX10_isFit 5 = .ok (.aload_n 0, 1) := by decide +kernel
theorem dX10_isFit_6 : decode cX10_isFit 6 = .ok (.getfield 157, 3) := by decide +kernel
theorem dX10_isFit_9 : decode cX10_isFit 9 = .ok (.if_icmp .ge 63, 3) := by decide +kernel
theorem dX10_isFit_12 : decode cX10_isFit 12 = .ok (.iload_n 2, 1) := by decide +kernel
theorem dX10_isFit_13 : decode cX10_isFit 13 = .ok (.ifCond .eq 59, 3) := by decide +kernel
theorem dX10_isFit_16 : decode cX10_isFit 16 = .ok (.iload_n 1, 1) := by decide +kernel
theorem dX10_isFit_17 : decode cX10_isFit 17 = .ok (.aload_n 0, 1) := by decide +kernel
theorem dX10_isFit_18 : decode cX10_isFit 18 = .ok (.getfield 22, 3) := by decide +kernel
theorem dX10_isFit_21 : decode cX10_isFit 21 = .ok (.iconst 3, 1) := by decide +kernel
theorem dX10_isFit_22 : decode cX10_isFit 22 = .ok (.iload_n 3, 1) := by decide +kernel
theorem dX10_isFit_23 : decode cX10_isFit 23 = .ok (.imul, 1) := by decide +kernel
theorem dX10_isFit_24 : decode cX10_isFit 24 = .ok (.iaload, 1) := by decide +kernel
theorem dX10_isFit_25 : decode cX10_isFit 25 = .ok (.aload_n 0, 1) := by decide +kernel
theorem dX10_isFit_26 : decode cX10_isFit 26 = .ok (.getfield 22, 3) := by decide +kernel
theorem dX10_isFit_29 : decode cX10_isFit 29 = .ok (.iconst 3, 1) := by decide +kernel
theorem dX10_isFit_30 : decode cX10_isFit 30 = .ok (.iload_n 3, 1) := by decide +kernel
theorem dX10_isFit_31 : decode cX10_isFit 31 = .ok (.imul, 1) := by decide +kernel
theorem dX10_isFit_32 : decode cX10_isFit 32 = .ok (.iconst 1, 1) := by decide +kernel
theorem dX10_isFit_33 : decode cX10_isFit 33 = .ok (.iadd, 1) := by decide +kernel
theorem dX10_isFit_34 : decode cX10_isFit 34 = .ok (.iaload, 1) := by decide +kernel
theorem dX10_isFit_35 : decode cX10_isFit 35 = .ok (.invokestatic 160, 3) := by decide +kernel
theorem dX10_isFit_38 : decode cX10_isFit 38 = .ok (.aload_n 0, 1) := by decide +kernel
theorem dX10_isFit_39 : decode cX10_isFit 39 = .ok (.getfield 22, 3) := by decide +kernel
theorem dX10_isFit_42 : decode cX10_isFit 42 = .ok (.iconst 3, 1) := by decide +kernel
theorem dX10_isFit_43 : decode cX10_isFit 43 = .ok (.iload_n 3, 1) := by decide +kernel
theorem dX10_isFit_44 : decode cX10_isFit 44 = .ok (.imul, 1) := by decide +kernel
theorem dX10_isFit_45 : decode cX10_isFit 45 = .ok (.iconst 2, 1) := by decide +kernel
theorem dX10_isFit_46 : decode cX10_isFit 46 = .ok (.iadd, 1) := by decide +kernel
theorem dX10_isFit_47 : decode cX10_isFit 47 = .ok (.iaload, 1) := by decide +kernel
theorem dX10_isFit_48 : decode cX10_isFit 48 = .ok (.iconst 1, 1) := by decide +kernel
theorem dX10_isFit_49 : decode cX10_isFit 49 = .ok (.if_icmp .ne 7, 3) := by decide +kernel
theorem dX10_isFit_52 : decode cX10_isFit 52 = .ok (.iconst 1, 1) := by decide +kernel
theorem dX10_isFit_53 : decode cX10_isFit 53 = .ok (.goto 4, 3) := by decide +kernel
theorem dX10_isFit_56 : decode cX10_isFit 56 = .ok (.iconst 0, 1) := by decide +kernel
theorem dX10_isFit_57 : decode cX10_isFit 57 = .ok (.if_icmp .ne 7, 3) := by decide +kernel
theorem dX10_isFit_60 : decode cX10_isFit 60 = .ok (.iconst 1, 1) := by decide +kernel
theorem dX10_isFit_61 : decode cX10_isFit 61 = .ok (.goto 4, 3) := by decide +kernel
theorem dX10_isFit_64 : decode cX10_isFit 64 = .ok (.iconst 0, 1) := by decide +kernel
theorem dX10_isFit_65 : decode cX10_isFit 65 = .ok (.istore_n 2, 1) := by decide +kernel
theorem dX10_isFit_66 : decode cX10_isFit 66 = .ok (.iinc 3 1, 3) := by decide +kernel
theorem dX10_isFit_69 : decode cX10_isFit 69 = .ok (.goto (-65), 3) := by decide +kernel
theorem dX10_isFit_72 : decode cX10_isFit 72 = .ok (.iload_n 2, 1) := by decide +kernel
theorem dX10_isFit_73 : decode cX10_isFit 73 = .ok (.ireturn, 1) := by decide +kernel
theorem dX10_posts_0 : decode cX10_posts 0 = .ok (.iconst 0, 1) := by decide +kernel
theorem dX10_posts_1 : decode cX10_posts 1 = .ok (.istore_n 2, 1) := by decide +kernel
theorem dX10_posts_2 : decode cX10_posts 2 = .ok (.iconst 0, 1) := by decide +kernel
theorem dX10_posts_3 : decode cX10_posts 3 = .ok (.istore_n 3, 1) := by decide +kernel
theorem dX10_posts_4 : decode cX10_posts 4 = .ok (.iload_n 3, 1) := by decide +kernel
theorem dX10_posts_5 : decode cX10_posts 5 = .ok (.sipush 410, 3) := by decide +kernel
theorem dX10_posts_8 : decode cX10_posts 8 = .ok (.if_icmp .ge 27, 3) := by decide +kernel
theorem dX10_posts_11 : decode cX10_posts 11 = .ok (.aload_n 0, 1) := by decide +kernel
theorem dX10_posts_12 : decode cX10_posts 12 = .ok (.iload_n 3, 1) := by decide +kernel
theorem dX10_posts_13 : decode cX10_posts 13 = .ok (.invokevirtual 163, 3) := by decide +kernel
theorem dX10_posts_16 : decode cX10_posts 16 = .ok (.ifCond .eq 13, 3) := by decide +kernel
theorem dX10_posts_19 : decode cX10_posts 19 = .ok (.iload_n 2, 1) := by decide +kernel
theorem dX10_posts_20 : decode cX10_posts 20 = .ok (.iload_n 1, 1) := by decide +kernel
theorem dX10_posts_21 : decode cX10_posts 21 = .ok (.if_icmp .ne 5, 3) := by decide +kernel
theorem dX10_posts_24 : decode cX10_posts 24 = .ok (.iload_n 3, 1) := by decide +kernel
theorem dX10_posts_25 : decode cX10_posts 25 = .ok (.ireturn, 1) := by decide +kernel
theorem dX10_posts_26 : decode cX10_posts 26 = .ok (.iinc 2 1, 3) := by decide +kernel
theorem dX10_posts_29 : decode cX10_posts 29 = .ok (.iinc 3 1, 3) := by decide +kernel
theorem dX10_posts_32 : decode cX10_posts 32 = .ok (.goto (-28), 3) := by decide +kernel
theorem dX10_posts_35 : decode cX10_posts 35 = .ok (.iload_n 1, 1) := by decide +kernel
theorem dX10_posts_36 : decode cX10_posts 36 = .ok (.iconst (-1), 1) := by decide +kernel
theorem dX10_posts_37 : decode cX10_posts 37 = .ok (.if_icmp .ne 7, 3) := by decide +kernel
theorem dX10_posts_40 : decode cX10_posts 40 = .ok (.iload_n 2, 1) := by decide +kernel
theorem dX10_posts_41 : decode cX10_posts 41 = .ok (.goto 5, 3) := by decide +kernel
theorem dX10_posts_44 : decode cX10_posts 44 = .ok (.bipush (-6), 2) := by decide +kernel
theorem dX10_posts_46 : decode cX10_posts 46 = .ok (.ireturn, 1) := by decide +kernel
theorem dX10_ask_0 : decode cX10_ask 0 = .ok (.iload_n 1, 1) := by decide +kernel
theorem dX10_ask_1 : decode cX10_ask 1 = .ok (.iconst 0, 1) := by decide +kernel
theorem dX10_ask_2 : decode cX10_ask 2 = .ok (.iconst 1, 1) := by decide +kernel
theorem dX10_ask_3 : decode cX10_ask 3 = .ok (.invokestatic 62, 3) := by decide +kernel
theorem dX10_ask_6 : decode cX10_ask 6 = .ok (.ifCond .ne 6, 3) := by decide +kernel
theorem dX10_ask_9 : decode cX10_ask 9 = .ok (.bipush (-2), 2) := by decide +kernel
theorem dX10_ask_11 : decode cX10_ask 11 = .ok (.ireturn, 1) := by decide +kernel
theorem dX10_ask_12 : decode cX10_ask 12 = .ok (.iconst 0, 1) := by decide +kernel
theorem dX10_ask_13 : decode cX10_ask 13 = .ok (.istore_n 2, 1) := by decide +kernel
theorem dX10_ask_14 : decode cX10_ask 14 = .ok (.iconst 0, 1) := by decide +kernel
theorem dX10_ask_15 : decode cX10_ask 15 = .ok (.istore_n 3, 1) := by decide +kernel
theorem dX10_ask_16 : decode cX10_ask 16 = .ok (.iload_n 3, 1) := by decide +kernel
theorem dX10_ask_17 : decode cX10_ask 17 = .ok (.sipush 410, 3) := by decide +kernel
theorem dX10_ask_20 : decode cX10_ask 20 = .ok (.if_icmp .ge 27, 3) := by decide +kernel
theorem dX10_ask_23 : decode cX10_ask 23 = .ok (.aload_n 0, 1) := by decide +kernel
theorem dX10_ask_24 : decode cX10_ask 24 = .ok (.iload_n 3, 1) := by decide +kernel
theorem dX10_ask_25 : decode cX10_ask 25 = .ok (.invokevirtual 163, 3) := by decide +kernel
theorem dX10_ask_28 : decode cX10_ask 28 = .ok (.ifCond .eq 13, 3) := by decide +kernel
theorem dX10_ask_31 : decode cX10_ask 31 = .ok (.aload_n 0, 1) := by decide +kernel
theorem dX10_ask_32 : decode cX10_ask 32 = .ok (.getfield 46, 3) := by decide +kernel
theorem dX10_ask_35 : decode cX10_ask 35 = .ok (.iload_n 2, 1) := by decide +kernel
theorem dX10_ask_36 : decode cX10_ask 36 = .ok (.iload_n 3, 1) := by decide +kernel
theorem dX10_ask_37 : decode cX10_ask 37 = .ok (.iastore, 1) := by decide +kernel
theorem dX10_ask_38 : decode cX10_ask 38 = .ok (.iinc 2 1, 3) := by decide +kernel
theorem dX10_ask_41 : decode cX10_ask 41 = .ok (.iinc 3 1, 3) := by decide +kernel
theorem dX10_ask_44 : decode cX10_ask 44 = .ok (.goto (-28), 3) := by decide +kernel
theorem dX10_ask_47 : decode cX10_ask 47 = .ok (.bipush (-6), 2) := by decide +kernel
theorem dX10_ask_49 : decode cX10_ask 49 = .ok (.istore_n 3, 1) := by decide +kernel
theorem dX10_ask_50 : decode cX10_ask 50 = .ok (.ldc 138, 2) := by decide +kernel
theorem dX10_ask_52 : decode cX10_ask 52 = .ok (.istore 4, 2) := by decide +kernel
theorem dX10_ask_54 : decode cX10_ask 54 = .ok (.iconst 0, 1) := by decide +kernel
theorem dX10_ask_55 : decode cX10_ask 55 = .ok (.istore 5, 2) := by decide +kernel
theorem dX10_ask_57 : decode cX10_ask 57 = .ok (.iload 5, 2) := by decide +kernel
theorem dX10_ask_59 : decode cX10_ask 59 = .ok (.sipush 600, 3) := by decide +kernel
theorem dX10_ask_62 : decode cX10_ask 62 = .ok (.if_icmp .ge 114, 3) := by decide +kernel
theorem dX10_ask_65 : decode cX10_ask 65 = .ok (.iload_n 2, 1) := by decide +kernel
theorem dX10_ask_66 : decode cX10_ask 66 = .ok (.ifCond .le 110, 3) := by decide +kernel
theorem dX10_ask_69 : decode cX10_ask 69 = .ok (.iconst 0, 1) := by decide +kernel
theorem dX10_ask_70 : decode cX10_ask 70 = .ok (.istore 6, 2) := by decide +kernel
theorem dX10_ask_72 : decode cX10_ask 72 = .ok (.iconst 0, 1) := by decide +kernel
theorem dX10_ask_73 : decode cX10_ask 73 = .ok (.istore 7, 2) := by decide +kernel
theorem dX10_ask_75 : decode cX10_ask 75 = .ok (.iload 7, 2) := by decide +kernel
theorem dX10_ask_77 : decode cX10_ask 77 = .ok (.iload_n 2, 1) := by decide +kernel
theorem dX10_ask_78 : decode cX10_ask 78 = .ok (.if_icmp .ge 42, 3) := by decide +kernel
theorem dX10_ask_81 : decode cX10_ask 81 = .ok (.iload 6, 2) := by decide +kernel
theorem dX10_ask_83 : decode cX10_ask 83 = .ok (.aload_n 0, 1) := by decide +kernel
theorem dX10_ask_84 : decode cX10_ask 84 = .ok (.getfield 46, 3) := by decide +kernel
theorem dX10_ask_87 : decode cX10_ask 87 = .ok (.iload 7, 2) := by decide +kernel
theorem dX10_ask_89 : decode cX10_ask 89 = .ok (.iaload, 1) := by decide +kernel
theorem dX10_ask_90 : decode cX10_ask 90 = .ok (.iload 5, 2) := by decide +kernel
theorem dX10_ask_92 : decode cX10_ask 92 = .ok (.bipush 100, 2) := by decide +kernel
theorem dX10_ask_94 : decode cX10_ask 94 = .ok (.idiv, 1) := by decide +kernel
theorem dX10_ask_95 : decode cX10_ask 95 = .ok (.iload 5, 2) := by decide +kernel
theorem dX10_ask_97 : decode cX10_ask 97 = .ok (.bipush 100, 2) := by decide +kernel
theorem dX10_ask_99 : decode cX10_ask 99 = .ok (.irem, 1) := by decide +kernel
theorem dX10_ask_100 : decode cX10_ask 100 = .ok (.invokestatic 160, 3) := by decide +kernel
theorem dX10_ask_103 : decode cX10_ask 103 = .ok (.ifCond .eq 7, 3) := by decide +kernel
theorem dX10_ask_106 : decode cX10_ask 106 = .ok (.iconst 1, 1) := by decide +kernel
theorem dX10_ask_107 : decode cX10_ask 107 = .ok (.goto 4, 3) := by decide +kernel
theorem dX10_ask_110 : decode cX10_ask 110 = .ok (.iconst 0, 1) := by decide +kernel
theorem dX10_ask_111 : decode cX10_ask 111 = .ok (.iadd, 1) := by decide +kernel
theorem dX10_ask_112 : decode cX10_ask 112 = .ok (.istore 6, 2) := by decide +kernel
theorem dX10_ask_114 : decode cX10_ask 114 = .ok (.iinc 7 1, 3) := by decide +kernel
theorem dX10_ask_117 : decode cX10_ask 117 = .ok (.goto (-42), 3) := by decide +kernel
theorem dX10_ask_120 : decode cX10_ask 120 = .ok (.iload 6, 2) := by decide +kernel
theorem dX10_ask_122 : decode cX10_ask 122 = .ok (.iload_n 2, 1) := by decide +kernel
theorem dX10_ask_123 : decode cX10_ask 123 = .ok (.iload 6, 2) := by decide +kernel
theorem dX10_ask_125 : decode cX10_ask 125 = .ok (.isub, 1) := by decide +kernel
theorem dX10_ask_126 : decode cX10_ask 126 = .ok (.if_icmp .le 8, 3) := by decide +kernel
theorem dX10_ask_129 : decode cX10_ask 129 = .ok (.iload 6, 2) := by decide +kernel
theorem dX10_ask_131 : decode cX10_ask 131 = .ok (.goto 7, 3) := by decide +kernel
theorem dX10_ask_134 : decode cX10_ask 134 = .ok (.iload_n 2, 1) := by decide +kernel
theorem dX10_ask_135 : decode cX10_ask 135 = .ok (.iload 6, 2) := by decide +kernel
theorem dX10_ask_137 : decode cX10_ask 137 = .ok (.isub, 1) := by decide +kernel
theorem dX10_ask_138 : decode cX10_ask 138 = .ok (.istore 7, 2) := by decide +kernel
theorem dX10_ask_140 : decode cX10_ask 140 = .ok (.iload 7, 2) := by decide +kernel
theorem dX10_ask_142 : decode cX10_ask 142 = .ok (.iload 4, 2) := by decide +kernel
theorem dX10_ask_144 : decode cX10_ask 144 = .ok (.if_icmp .ge 8, 3) := by decide +kernel
theorem dX10_ask_147 : decode cX10_ask 147 = .ok (.iload 5, 2) := by decide +kernel
theorem dX10_ask_149 : decode cX10_ask 149 = .ok (.goto 4, 3) := by decide +kernel
theorem dX10_ask_152 : decode cX10_ask 152 = .ok (.iload_n 3, 1) := by decide +kernel
theorem dX10_ask_153 : decode cX10_ask 153 = .ok (.istore_n 3, 1) := by decide +kernel
theorem dX10_ask_154 : decode cX10_ask 154 = .ok (.iload 7, 2) := by decide +kernel
theorem dX10_ask_156 : decode cX10_ask 156 = .ok (.iload 4, 2) := by decide +kernel
theorem dX10_ask_158 : decode cX10_ask 158 = .ok (.if_icmp .ge 8, 3) := by decide +kernel
theorem dX10_ask_161 : decode cX10_ask 161 = .ok (.iload 7, 2) := by decide +kernel
theorem dX10_ask_163 : decode cX10_ask 163 = .ok (.goto 5, 3) := by decide +kernel
theorem dX10_ask_166 : decode cX10_ask 166 = .ok (.iload 4, 2) := by decide +kernel
theorem dX10_ask_168 : decode cX10_ask 168 = .ok (.istore 4, 2) := by decide +kernel
theorem dX10_ask_170 : decode cX10_ask 170 = .ok (.iinc 5 1, 3) := by decide +kernel
theorem dX10_ask_173 : decode cX10_ask 173 = .ok (.goto (-116), 3) := by decide +kernel
theorem dX10_ask_176 : decode cX10_ask 176 = .ok (.iload_n 3, 1) := by decide +kernel
theorem dX10_ask_177 : decode cX10_ask 177 = .ok (.ifCond .lt 7, 3) := by decide +kernel
theorem dX10_ask_180 : decode cX10_ask 180 = .ok (.iload_n 1, 1) := by decide +kernel
theorem dX10_ask_181 : decode cX10_ask 181 = .ok (.ifCond .ne 7, 3) := by decide +kernel
theorem dX10_ask_184 : decode cX10_ask 184 = .ok (.iload_n 3, 1) := by decide +kernel
theorem dX10_ask_185 : decode cX10_ask 185 = .ok (.goto 5, 3) := by decide +kernel
theorem dX10_ask_188 : decode cX10_ask 188 = .ok (.iload 4, 2) := by decide +kernel
theorem dX10_ask_190 : decode cX10_ask 190 = .ok (.ireturn, 1) := by decide +kernel
theorem dX10_layWorth_0 : decode cX10_layWorth 0 = .ok (.iconst 0, 1) := by decide +kernel
theorem dX10_layWorth_1 : decode cX10_layWorth 1 = .ok (.istore_n 2, 1) := by decide +kernel
theorem dX10_layWorth_2 : decode cX10_layWorth 2 = .ok (.iload_n 2, 1) := by decide +kernel
theorem dX10_layWorth_3 : decode cX10_layWorth 3 = .ok (.iload_n 1, 1) := by decide +kernel
theorem dX10_layWorth_4 : decode cX10_layWorth 4 = .ok (.if_icmp .gt 90, 3) := by decide +kernel
theorem dX10_layWorth_7 : decode cX10_layWorth 7 = .ok (.iconst 0, 1) := by decide +kernel
theorem dX10_layWorth_8 : decode cX10_layWorth 8 = .ok (.istore_n 3, 1) := by decide +kernel
theorem dX10_layWorth_9 : decode cX10_layWorth 9 = .ok (.iload_n 3, 1) := by decide +kernel
theorem dX10_layWorth_10 : decode cX10_layWorth 10 = .ok (.bipush 64, 2) := by decide +kernel
theorem dX10_layWorth_12 : decode cX10_layWorth 12 = .ok (.if_icmp .ge 16, 3) := by decide +kernel
theorem dX10_layWorth_15 : decode cX10_layWorth 15 = .ok (.aload_n 0, 1) := by decide +kernel
theorem dX10_layWorth_16 : decode cX10_layWorth 16 = .ok (.getfield 52, 3) := by decide +kernel
theorem dX10_layWorth_19 : decode cX10_layWorth 19 = .ok (.iload_n 3, 1) := by decide +kernel
theorem dX10_layWorth_20 : decode cX10_layWorth 20 = .ok (.iconst 0, 1) := by decide +kernel
theorem dX10_layWorth_21 : decode cX10_layWorth 21 = .ok (.bastore, 1) := by decide +kernel
theorem dX10_layWorth_22 : decode cX10_layWorth 22 = .ok (.iinc 3 1, 3) := by decide +kernel
theorem dX10_layWorth_25 : decode cX10_layWorth 25 = .ok (.goto (-16), 3) := by decide +kernel
theorem dX10_layWorth_28 : decode cX10_layWorth 28 = .ok (.iconst 1, 1) := by decide +kernel
theorem dX10_layWorth_29 : decode cX10_layWorth 29 = .ok (.istore_n 3, 1) := by decide +kernel
theorem dX10_layWorth_30 : decode cX10_layWorth 30 = .ok (.iconst 2, 1) := by decide +kernel
theorem dX10_layWorth_31 : decode cX10_layWorth 31 = .ok (.iload_n 3, 1) := by decide +kernel
theorem dX10_layWorth_32 : decode cX10_layWorth 32 = .ok (.imul, 1) := by decide +kernel
theorem dX10_layWorth_33 : decode cX10_layWorth 33 = .ok (.iload_n 2, 1) := by decide +kernel
theorem dX10_layWorth_34 : decode cX10_layWorth 34 = .ok (.if_icmp .ge 30, 3) := by decide +kernel
theorem dX10_layWorth_37 : decode cX10_layWorth 37 = .ok (.aload_n 0, 1) := by decide +kernel
theorem dX10_layWorth_38 : decode cX10_layWorth 38 = .ok (.getfield 52, 3) := by decide +kernel
theorem dX10_layWorth_41 : decode cX10_layWorth 41 = .ok (.aload_n 0, 1) := by decide +kernel
theorem dX10_layWorth_42 : decode cX10_layWorth 42 = .ok (.getfield 49, 3) := by decide +kernel
theorem dX10_layWorth_45 : decode cX10_layWorth 45 = .ok (.iload_n 3, 1) := by decide +kernel
theorem dX10_layWorth_46 : decode cX10_layWorth 46 = .ok (.iaload, 1) := by decide +kernel
theorem dX10_layWorth_47 : decode cX10_layWorth 47 = .ok (.aload_n 0, 1) := by decide +kernel
theorem dX10_layWorth_48 : decode cX10_layWorth 48 = .ok (.getfield 49, 3) := by decide +kernel
theorem dX10_layWorth_51 : decode cX10_layWorth 51 = .ok (.iload_n 2, 1) := by decide +kernel
theorem dX10_layWorth_52 : decode cX10_layWorth 52 = .ok (.iload_n 3, 1) := by decide +kernel
theorem dX10_layWorth_53 : decode cX10_layWorth 53 = .ok (.isub, 1) := by decide +kernel
theorem dX10_layWorth_54 : decode cX10_layWorth 54 = .ok (.iaload, 1) := by decide +kernel
theorem dX10_layWorth_55 : decode cX10_layWorth 55 = .ok (.ixor, 1) := by decide +kernel
theorem dX10_layWorth_56 : decode cX10_layWorth 56 = .ok (.iconst 1, 1) := by decide +kernel
theorem dX10_layWorth_57 : decode cX10_layWorth 57 = .ok (.bastore, 1) := by decide +kernel
theorem dX10_layWorth_58 : decode cX10_layWorth 58 = .ok (.iinc 3 1, 3) := by decide +kernel
theorem dX10_layWorth_61 : decode cX10_layWorth 61 = .ok (.goto (-31), 3) := by decide +kernel
theorem dX10_layWorth_64 : decode cX10_layWorth 64 = .ok (.iconst 0, 1) := by decide +kernel
theorem dX10_layWorth_65 : decode cX10_layWorth 65 = .ok (.istore_n 3, 1) := by decide +kernel
theorem dX10_layWorth_66 : decode cX10_layWorth 66 = .ok (.aload_n 0, 1) := by decide +kernel
theorem dX10_layWorth_67 : decode cX10_layWorth 67 = .ok (.getfield 52, 3) := by decide +kernel
theorem dX10_layWorth_70 : decode cX10_layWorth 70 = .ok (.iload_n 3, 1) := by decide +kernel
theorem dX10_layWorth_71 : decode cX10_layWorth 71 = .ok (.baload, 1) := by decide +kernel
theorem dX10_layWorth_72 : decode cX10_layWorth 72 = .ok (.ifCond .eq 9, 3) := by decide +kernel
theorem dX10_layWorth_75 : decode cX10_layWorth 75 = .ok (.iinc 3 1, 3) := by decide +kernel
theorem dX10_layWorth_78 : decode cX10_layWorth 78 = .ok (.goto (-12), 3) := by decide +kernel
theorem dX10_layWorth_81 : decode cX10_layWorth 81 = .ok (.aload_n 0, 1) := by decide +kernel
theorem dX10_layWorth_82 : decode cX10_layWorth 82 = .ok (.getfield 49, 3) := by decide +kernel
theorem dX10_layWorth_85 : decode cX10_layWorth 85 = .ok (.iload_n 2, 1) := by decide +kernel
theorem dX10_layWorth_86 : decode cX10_layWorth 86 = .ok (.iload_n 3, 1) := by decide +kernel
theorem dX10_layWorth_87 : decode cX10_layWorth 87 = .ok (.iastore, 1) := by decide +kernel
theorem dX10_layWorth_88 : decode cX10_layWorth 88 = .ok (.iinc 2 1, 3) := by decide +kernel
theorem dX10_layWorth_91 : decode cX10_layWorth 91 = .ok (.goto (-89), 3) := by decide +kernel
theorem dX10_layWorth_94 : decode cX10_layWorth 94 = .ok (.return_, 1) := by decide +kernel
theorem dX10_heaps_0 : decode cX10_heaps 0 = .ok (.iload_n 1, 1) := by decide +kernel
theorem dX10_heaps_1 : decode cX10_heaps 1 = .ok (.iconst 0, 1) := by decide +kernel
theorem dX10_heaps_2 : decode cX10_heaps 2 = .ok (.bipush 60, 2) := by decide +kernel
theorem dX10_heaps_4 : decode cX10_heaps 4 = .ok (.invokestatic 62, 3) := by decide +kernel
theorem dX10_heaps_7 : decode cX10_heaps 7 = .ok (.ifCond .eq 12, 3) := by decide +kernel
theorem dX10_heaps_10 : decode cX10_heaps 10 = .ok (.iload_n 2, 1) := by decide +kernel
theorem dX10_heaps_11 : decode cX10_heaps 11 = .ok (.iconst 0, 1) := by decide +kernel
theorem dX10_heaps_12 : decode cX10_heaps 12 = .ok (.iconst 1, 1) := by decide +kernel
theorem dX10_heaps_13 : decode cX10_heaps 13 = .ok (.invokestatic 62, 3) := by decide +kernel
theorem dX10_heaps_16 : decode cX10_heaps 16 = .ok (.ifCond .ne 6, 3) := by decide +kernel
theorem dX10_heaps_19 : decode cX10_heaps 19 = .ok (.bipush (-2), 2) := by decide +kernel
theorem dX10_heaps_21 : decode cX10_heaps 21 = .ok (.ireturn, 1) := by decide +kernel
theorem dX10_heaps_22 : decode cX10_heaps 22 = .ok (.aload_n 0, 1) := by decide +kernel
theorem dX10_heaps_23 : decode cX10_heaps 23 = .ok (.iload_n 1, 1) := by decide +kernel
theorem dX10_heaps_24 : decode cX10_heaps 24 = .ok (.invokevirtual 166, 3) := by decide +kernel
theorem dX10_heaps_27 : decode cX10_heaps 27 = .ok (.iload_n 2, 1) := by decide +kernel
theorem dX10_heaps_28 : decode cX10_heaps 28 = .ok (.ifCond .ne 18, 3) := by decide +kernel
theorem dX10_heaps_31 : decode cX10_heaps 31 = .ok (.aload_n 0, 1) := by decide +kernel
theorem dX10_heaps_32 : decode cX10_heaps 32 = .ok (.getfield 49, 3) := by decide +kernel
theorem dX10_heaps_35 : decode cX10_heaps 35 = .ok (.iload_n 1, 1) := by decide +kernel
theorem dX10_heaps_36 : decode cX10_heaps 36 = .ok (.iaload, 1) := by decide +kernel
theorem dX10_heaps_37 : decode cX10_heaps 37 = .ok (.ifCond .le 7, 3) := by decide +kernel
theorem dX10_heaps_40 : decode cX10_heaps 40 = .ok (.iconst 1, 1) := by decide +kernel
theorem dX10_heaps_41 : decode cX10_heaps 41 = .ok (.goto 4, 3) := by decide +kernel
theorem dX10_heaps_44 : decode cX10_heaps 44 = .ok (.iconst 0, 1) := by decide +kernel
theorem dX10_heaps_45 : decode cX10_heaps 45 = .ok (.ireturn, 1) := by decide +kernel
theorem dX10_heaps_46 : decode cX10_heaps 46 = .ok (.iconst 1, 1) := by decide +kernel
theorem dX10_heaps_47 : decode cX10_heaps 47 = .ok (.istore_n 3, 1) := by decide +kernel
theorem dX10_heaps_48 : decode cX10_heaps 48 = .ok (.iconst 2, 1) := by decide +kernel
theorem dX10_heaps_49 : decode cX10_heaps 49 = .ok (.iload_n 3, 1) := by decide +kernel
theorem dX10_heaps_50 : decode cX10_heaps 50 = .ok (.imul, 1) := by decide +kernel
theorem dX10_heaps_51 : decode cX10_heaps 51 = .ok (.iload_n 1, 1) := by decide +kernel
theorem dX10_heaps_52 : decode cX10_heaps 52 = .ok (.if_icmp .ge 28, 3) := by decide +kernel
theorem dX10_heaps_55 : decode cX10_heaps 55 = .ok (.aload_n 0, 1) := by decide +kernel
theorem dX10_heaps_56 : decode cX10_heaps 56 = .ok (.getfield 49, 3) := by decide +kernel
theorem dX10_heaps_59 : decode cX10_heaps 59 = .ok (.iload_n 3, 1) := by decide +kernel
theorem dX10_heaps_60 : decode cX10_heaps 60 = .ok (.iaload, 1) := by decide +kernel
theorem dX10_heaps_61 : decode cX10_heaps 61 = .ok (.aload_n 0, 1) := by decide +kernel
theorem dX10_heaps_62 : decode cX10_heaps 62 = .ok (.getfield 49, 3) := by decide +kernel
theorem dX10_heaps_65 : decode cX10_heaps 65 = .ok (.iload_n 1, 1) := by decide +kernel
theorem dX10_heaps_66 : decode cX10_heaps 66 = .ok (.iload_n 3, 1) := by decide +kernel
theorem dX10_heaps_67 : decode cX10_heaps 67 = .ok (.isub, 1) := by decide +kernel
theorem dX10_heaps_68 : decode cX10_heaps 68 = .ok (.iaload, 1) := by decide +kernel
theorem dX10_heaps_69 : decode cX10_heaps 69 = .ok (.if_icmp .ne 5, 3) := by decide +kernel
theorem dX10_heaps_72 : decode cX10_heaps 72 = .ok (.iload_n 3, 1) := by decide +kernel
theorem dX10_heaps_73 : decode cX10_heaps 73 = .ok (.ireturn, 1) := by decide +kernel
theorem dX10_heaps_74 : decode cX10_heaps 74 = .ok (.iinc 3 1, 3) := by decide +kernel
theorem dX10_heaps_77 : decode cX10_heaps 77 = .ok (.goto (-29), 3) := by decide +kernel
theorem dX10_heaps_80 : decode cX10_heaps 80 = .ok (.bipush (-6), 2) := by decide +kernel
theorem dX10_heaps_82 : decode cX10_heaps 82 = .ok (.ireturn, 1) := by decide +kernel
theorem dX10_power_0 : decode cX10_power 0 = .ok (.lconst 1, 1) := by decide +kernel
theorem dX10_power_1 : decode cX10_power 1 = .ok (.lstore_n 2, 1) := by decide +kernel
theorem dX10_power_2 : decode cX10_power 2 = .ok (.iconst 0, 1) := by decide +kernel
theorem dX10_power_3 : decode cX10_power 3 = .ok (.istore 4, 2) := by decide +kernel
theorem dX10_power_5 : decode cX10_power 5 = .ok (.iload 4, 2) := by decide +kernel
end
section
theorem dX10_power_7 : decode cX10_power 7 = .ok (.iload_n 1, 1) := by decide +kernel
theorem dX10_power_8 : decode cX10_power 8 = .ok (.if_icmp .ge 14, 3) := by decide +kernel
theorem dX10_power_11 : decode cX10_power 11 = .ok (.lload_n 2, 1) := by decide +kernel
theorem dX10_power_12 : decode cX10_power 12 = .ok (.iload_n 0, 1) := by decide +kernel
theorem dX10_power_13 : decode cX10_power 13 = .ok (.i2l, 1) := by decide +kernel
theorem dX10_power_14 : decode cX10_power 14 = .ok (.lmul, 1) := by decide +kernel
theorem dX10_power_15 : decode cX10_power 15 = .ok (.lstore_n 2, 1) := by decide +kernel
theorem dX10_power_16 : decode cX10_power 16 = .ok (.iinc 4 1, 3) := by decide +kernel
theorem dX10_power_19 : decode cX10_power 19 = .ok (.goto (-14), 3) := by decide +kernel
theorem dX10_power_22 : decode cX10_power 22 = .ok (.lload_n 2, 1) := by decide +kernel
theorem dX10_power_23 : decode cX10_power 23 = .ok (.lreturn, 1) := by decide +kernel
theorem dX10_gust_0 : decode cX10_gust 0 = .ok (.iload_n 1, 1) := by decide +kernel
theorem dX10_gust_1 : decode cX10_gust 1 = .ok (.iconst 1, 1) := by decide +kernel
theorem dX10_gust_2 : decode cX10_gust 2 = .ok (.bipush 12, 2) := by decide +kernel
theorem dX10_gust_4 : decode cX10_gust 4 = .ok (.invokestatic 62, 3) := by decide +kernel
theorem dX10_gust_7 : decode cX10_gust 7 = .ok (.ifCond .eq 42, 3) := by decide +kernel
theorem dX10_gust_10 : decode cX10_gust 10 = .ok (.iload_n 2, 1) := by decide +kernel
theorem dX10_gust_11 : decode cX10_gust 11 = .ok (.iconst 1, 1) := by decide +kernel
theorem dX10_gust_12 : decode cX10_gust 12 = .ok (.bipush 9, 2) := by decide +kernel
theorem dX10_gust_14 : decode cX10_gust 14 = .ok (.invokestatic 62, 3) := by decide +kernel
theorem dX10_gust_17 : decode cX10_gust 17 = .ok (.ifCond .eq 32, 3) := by decide +kernel
theorem dX10_gust_20 : decode cX10_gust 20 = .ok (.iload_n 3, 1) := by decide +kernel
theorem dX10_gust_21 : decode cX10_gust 21 = .ok (.iconst 1, 1) := by decide +kernel
theorem dX10_gust_22 : decode cX10_gust 22 = .ok (.iload_n 2, 1) := by decide +kernel
theorem dX10_gust_23 : decode cX10_gust 23 = .ok (.invokestatic 62, 3) := by decide +kernel
theorem dX10_gust_26 : decode cX10_gust 26 = .ok (.ifCond .eq 23, 3) := by decide +kernel
theorem dX10_gust_29 : decode cX10_gust 29 = .ok (.iload 4, 2) := by decide +kernel
theorem dX10_gust_31 : decode cX10_gust 31 = .ok (.iconst 0, 1) := by decide +kernel
theorem dX10_gust_32 : decode cX10_gust 32 = .ok (.iconst 1, 1) := by decide +kernel
theorem dX10_gust_33 : decode cX10_gust 33 = .ok (.invokestatic 62, 3) := by decide +kernel
theorem dX10_gust_36 : decode cX10_gust 36 = .ok (.ifCond .eq 13, 3) := by decide +kernel
theorem dX10_gust_39 : decode cX10_gust 39 = .ok (.iload 5, 2) := by decide +kernel
theorem dX10_gust_41 : decode cX10_gust 41 = .ok (.iconst 0, 1) := by decide +kernel
theorem dX10_gust_42 : decode cX10_gust 42 = .ok (.iconst 1, 1) := by decide +kernel
theorem dX10_gust_43 : decode cX10_gust 43 = .ok (.invokestatic 62, 3) := by decide +kernel
theorem dX10_gust_46 : decode cX10_gust 46 = .ok (.ifCond .ne 7, 3) := by decide +kernel
theorem dX10_gust_49 : decode cX10_gust 49 = .ok (.ldc2_w 170, 3) := by decide +kernel
theorem dX10_gust_52 : decode cX10_gust 52 = .ok (.lreturn, 1) := by decide +kernel
theorem dX10_gust_53 : decode cX10_gust 53 = .ok (.iload_n 2, 1) := by decide +kernel
theorem dX10_gust_54 : decode cX10_gust 54 = .ok (.iload_n 1, 1) := by decide +kernel
theorem dX10_gust_55 : decode cX10_gust 55 = .ok (.invokestatic 172, 3) := by decide +kernel
theorem dX10_gust_58 : decode cX10_gust 58 = .ok (.lstore 6, 2) := by decide +kernel
theorem dX10_gust_60 : decode cX10_gust 60 = .ok (.iload_n 3, 1) := by decide +kernel
theorem dX10_gust_61 : decode cX10_gust 61 = .ok (.iload_n 1, 1) := by decide +kernel
theorem dX10_gust_62 : decode cX10_gust 62 = .ok (.invokestatic 172, 3) := by decide +kernel
theorem dX10_gust_65 : decode cX10_gust 65 = .ok (.iload_n 3, 1) := by decide +kernel
theorem dX10_gust_66 : decode cX10_gust 66 = .ok (.iconst 1, 1) := by decide +kernel
theorem dX10_gust_67 : decode cX10_gust 67 = .ok (.isub, 1) := by decide +kernel
theorem dX10_gust_68 : decode cX10_gust 68 = .ok (.iload_n 1, 1) := by decide +kernel
theorem dX10_gust_69 : decode cX10_gust 69 = .ok (.invokestatic 172, 3) := by decide +kernel
theorem dX10_gust_72 : decode cX10_gust 72 = .ok (.lsub, 1) := by decide +kernel
theorem dX10_gust_73 : decode cX10_gust 73 = .ok (.lstore 8, 2) := by decide +kernel
theorem dX10_gust_75 : decode cX10_gust 75 = .ok (.iload 4, 2) := by decide +kernel
theorem dX10_gust_77 : decode cX10_gust 77 = .ok (.iconst 1, 1) := by decide +kernel
theorem dX10_gust_78 : decode cX10_gust 78 = .ok (.if_icmp .ne 45, 3) := by decide +kernel
theorem dX10_gust_81 : decode cX10_gust 81 = .ok (.lconst 0, 1) := by decide +kernel
theorem dX10_gust_82 : decode cX10_gust 82 = .ok (.lstore 8, 2) := by decide +kernel
theorem dX10_gust_84 : decode cX10_gust 84 = .ok (.iconst 1, 1) := by decide +kernel
theorem dX10_gust_85 : decode cX10_gust 85 = .ok (.istore 10, 2) := by decide +kernel
theorem dX10_gust_87 : decode cX10_gust 87 = .ok (.iload 10, 2) := by decide +kernel
theorem dX10_gust_89 : decode cX10_gust 89 = .ok (.iload_n 2, 1) := by decide +kernel
theorem dX10_gust_90 : decode cX10_gust 90 = .ok (.if_icmp .gt 33, 3) := by decide +kernel
theorem dX10_gust_93 : decode cX10_gust 93 = .ok (.lload 8, 2) := by decide +kernel
theorem dX10_gust_95 : decode cX10_gust 95 = .ok (.iload 10, 2) := by decide +kernel
theorem dX10_gust_97 : decode cX10_gust 97 = .ok (.i2l, 1) := by decide +kernel
theorem dX10_gust_98 : decode cX10_gust 98 = .ok (.iload 10, 2) := by decide +kernel
theorem dX10_gust_100 : decode cX10_gust 100 = .ok (.iload_n 1, 1) := by decide +kernel
theorem dX10_gust_101 : decode cX10_gust 101 = .ok (.invokestatic 172, 3) := by decide +kernel
theorem dX10_gust_104 : decode cX10_gust 104 = .ok (.iload 10, 2) := by decide +kernel
theorem dX10_gust_106 : decode cX10_gust 106 = .ok (.iconst 1, 1) := by decide +kernel
theorem dX10_gust_107 : decode cX10_gust 107 = .ok (.isub, 1) := by decide +kernel
theorem dX10_gust_108 : decode cX10_gust 108 = .ok (.iload_n 1, 1) := by decide +kernel
theorem dX10_gust_109 : decode cX10_gust 109 = .ok (.invokestatic 172, 3) := by decide +kernel
theorem dX10_gust_112 : decode cX10_gust 112 = .ok (.lsub, 1) := by decide +kernel
theorem dX10_gust_113 : decode cX10_gust 113 = .ok (.lmul, 1) := by decide +kernel
theorem dX10_gust_114 : decode cX10_gust 114 = .ok (.ladd, 1) := by decide +kernel
theorem dX10_gust_115 : decode cX10_gust 115 = .ok (.lstore 8, 2) := by decide +kernel
theorem dX10_gust_117 : decode cX10_gust 117 = .ok (.iinc 10 1, 3) := by decide +kernel
theorem dX10_gust_120 : decode cX10_gust 120 = .ok (.goto (-33), 3) := by decide +kernel
theorem dX10_gust_123 : decode cX10_gust 123 = .ok (.lload 8, 2) := by decide +kernel
theorem dX10_gust_125 : decode cX10_gust 125 = .ok (.lstore 10, 2) := by decide +kernel
theorem dX10_gust_127 : decode cX10_gust 127 = .ok (.lload 6, 2) := by decide +kernel
theorem dX10_gust_129 : decode cX10_gust 129 = .ok (.lstore 12, 2) := by decide +kernel
theorem dX10_gust_131 : decode cX10_gust 131 = .ok (.lload 12, 2) := by decide +kernel
theorem dX10_gust_133 : decode cX10_gust 133 = .ok (.lconst 0, 1) := by decide +kernel
theorem dX10_gust_134 : decode cX10_gust 134 = .ok (.lcmp, 1) := by decide +kernel
theorem dX10_gust_135 : decode cX10_gust 135 = .ok (.ifCond .eq 21, 3) := by decide +kernel
theorem dX10_gust_138 : decode cX10_gust 138 = .ok (.lload 10, 2) := by decide +kernel
theorem dX10_gust_140 : decode cX10_gust 140 = .ok (.lload 12, 2) := by decide +kernel
theorem dX10_gust_142 : decode cX10_gust 142 = .ok (.lrem, 1) := by decide +kernel
theorem dX10_gust_143 : decode cX10_gust 143 = .ok (.lstore 14, 2) := by decide +kernel
theorem dX10_gust_145 : decode cX10_gust 145 = .ok (.lload 12, 2) := by decide +kernel
theorem dX10_gust_147 : decode cX10_gust 147 = .ok (.lstore 10, 2) := by decide +kernel
theorem dX10_gust_149 : decode cX10_gust 149 = .ok (.lload 14, 2) := by decide +kernel
theorem dX10_gust_151 : decode cX10_gust 151 = .ok (.lstore 12, 2) := by decide +kernel
theorem dX10_gust_153 : decode cX10_gust 153 = .ok (.goto (-22), 3) := by decide +kernel
theorem dX10_gust_156 : decode cX10_gust 156 = .ok (.iload 5, 2) := by decide +kernel
theorem dX10_gust_158 : decode cX10_gust 158 = .ok (.ifCond .ne 11, 3) := by decide +kernel
theorem dX10_gust_161 : decode cX10_gust 161 = .ok (.lload 8, 2) := by decide +kernel
theorem dX10_gust_163 : decode cX10_gust 163 = .ok (.lload 10, 2) := by decide +kernel
theorem dX10_gust_165 : decode cX10_gust 165 = .ok (.ldiv, 1) := by decide +kernel
theorem dX10_gust_166 : decode cX10_gust 166 = .ok (.goto 8, 3) := by decide +kernel
theorem dX10_gust_169 : decode cX10_gust 169 = .ok (.lload 6, 2) := by decide +kernel
theorem dX10_gust_171 : decode cX10_gust 171 = .ok (.lload 10, 2) := by decide +kernel
theorem dX10_gust_173 : decode cX10_gust 173 = .ok (.ldiv, 1) := by decide +kernel
theorem dX10_gust_174 : decode cX10_gust 174 = .ok (.lreturn, 1) := by decide +kernel
theorem dX10_year_0 : decode cX10_year 0 = .ok (.iload_n 1, 1) := by decide +kernel
theorem dX10_year_1 : decode cX10_year 1 = .ok (.iconst 0, 1) := by decide +kernel
theorem dX10_year_2 : decode cX10_year 2 = .ok (.sipush 9999, 3) := by decide +kernel
theorem dX10_year_5 : decode cX10_year 5 = .ok (.invokestatic 62, 3) := by decide +kernel
theorem dX10_year_8 : decode cX10_year 8 = .ok (.ifCond .eq 22, 3) := by decide +kernel
theorem dX10_year_11 : decode cX10_year 11 = .ok (.iload_n 2, 1) := by decide +kernel
theorem dX10_year_12 : decode cX10_year 12 = .ok (.iconst 1, 1) := by decide +kernel
theorem dX10_year_13 : decode cX10_year 13 = .ok (.bipush 99, 2) := by decide +kernel
theorem dX10_year_15 : decode cX10_year 15 = .ok (.invokestatic 62, 3) := by decide +kernel
theorem dX10_year_18 : decode cX10_year 18 = .ok (.ifCond .eq 12, 3) := by decide +kernel
theorem dX10_year_21 : decode cX10_year 21 = .ok (.iload_n 3, 1) := by decide +kernel
theorem dX10_year_22 : decode cX10_year 22 = .ok (.iconst 0, 1) := by decide +kernel
theorem dX10_year_23 : decode cX10_year 23 = .ok (.iconst 2, 1) := by decide +kernel
theorem dX10_year_24 : decode cX10_year 24 = .ok (.invokestatic 62, 3) := by decide +kernel
theorem dX10_year_27 : decode cX10_year 27 = .ok (.ifCond .ne 6, 3) := by decide +kernel
theorem dX10_year_30 : decode cX10_year 30 = .ok (.bipush (-2), 2) := by decide +kernel
theorem dX10_year_32 : decode cX10_year 32 = .ok (.ireturn, 1) := by decide +kernel
theorem dX10_year_33 : decode cX10_year 33 = .ok (.aload_n 0, 1) := by decide +kernel
theorem dX10_year_34 : decode cX10_year 34 = .ok (.invokevirtual 70, 3) := by decide +kernel
theorem dX10_year_37 : decode cX10_year 37 = .ok (.iload_n 1, 1) := by decide +kernel
theorem dX10_year_38 : decode cX10_year 38 = .ok (.istore 4, 2) := by decide +kernel
theorem dX10_year_40 : decode cX10_year 40 = .ok (.iconst 0, 1) := by decide +kernel
theorem dX10_year_41 : decode cX10_year 41 = .ok (.istore 5, 2) := by decide +kernel
theorem dX10_year_43 : decode cX10_year 43 = .ok (.iload 5, 2) := by decide +kernel
theorem dX10_year_45 : decode cX10_year 45 = .ok (.iload_n 2, 1) := by decide +kernel
theorem dX10_year_46 : decode cX10_year 46 = .ok (.if_icmp .ge 140, 3) := by decide +kernel
theorem dX10_year_49 : decode cX10_year 49 = .ok (.bipush 75, 2) := by decide +kernel
theorem dX10_year_51 : decode cX10_year 51 = .ok (.iload 4, 2) := by decide +kernel
theorem dX10_year_53 : decode cX10_year 53 = .ok (.imul, 1) := by decide +kernel
theorem dX10_year_54 : decode cX10_year 54 = .ok (.bipush 74, 2) := by decide +kernel
theorem dX10_year_56 : decode cX10_year 56 = .ok (.iadd, 1) := by decide +kernel
theorem dX10_year_57 : decode cX10_year 57 = .ok (.ldc 176, 2) := by decide +kernel
theorem dX10_year_59 : decode cX10_year 59 = .ok (.irem, 1) := by decide +kernel
theorem dX10_year_60 : decode cX10_year 60 = .ok (.istore 4, 2) := by decide +kernel
theorem dX10_year_62 : decode cX10_year 62 = .ok (.iload 4, 2) := by decide +kernel
theorem dX10_year_64 : decode cX10_year 64 = .ok (.bipush 7, 2) := by decide +kernel
theorem dX10_year_66 : decode cX10_year 66 = .ok (.irem, 1) := by decide +kernel
theorem dX10_year_67 : decode cX10_year 67 = .ok (.istore 6, 2) := by decide +kernel
theorem dX10_year_69 : decode cX10_year 69 = .ok (.iload 4, 2) := by decide +kernel
theorem dX10_year_71 : decode cX10_year 71 = .ok (.bipush 7, 2) := by decide +kernel
theorem dX10_year_73 : decode cX10_year 73 = .ok (.idiv, 1) := by decide +kernel
theorem dX10_year_74 : decode cX10_year 74 = .ok (.bipush 8, 2) := by decide +kernel
theorem dX10_year_76 : decode cX10_year 76 = .ok (.irem, 1) := by decide +kernel
theorem dX10_year_77 : decode cX10_year 77 = .ok (.istore 7, 2) := by decide +kernel
theorem dX10_year_79 : decode cX10_year 79 = .ok (.iload 4, 2) := by decide +kernel
theorem dX10_year_81 : decode cX10_year 81 = .ok (.bipush 56, 2) := by decide +kernel
theorem dX10_year_83 : decode cX10_year 83 = .ok (.idiv, 1) := by decide +kernel
theorem dX10_year_84 : decode cX10_year 84 = .ok (.istore 8, 2) := by decide +kernel
theorem dX10_year_86 : decode cX10_year 86 = .ok (.iload 7, 2) := by decide +kernel
theorem dX10_year_88 : decode cX10_year 88 = .ok (.iconst 3, 1) := by decide +kernel
theorem dX10_year_89 : decode cX10_year 89 = .ok (.if_icmp .ge 21, 3) := by decide +kernel
theorem dX10_year_92 : decode cX10_year 92 = .ok (.aload_n 0, 1) := by decide +kernel
theorem dX10_year_93 : decode cX10_year 93 = .ok (.aload_n 0, 1) := by decide +kernel
theorem dX10_year_94 : decode cX10_year 94 = .ok (.iload 6, 2) := by decide +kernel
theorem dX10_year_96 : decode cX10_year 96 = .ok (.iload 8, 2) := by decide +kernel
theorem dX10_year_98 : decode cX10_year 98 = .ok (.bipush 7, 2) := by decide +kernel
theorem dX10_year_100 : decode cX10_year 100 = .ok (.irem, 1) := by decide +kernel
theorem dX10_year_101 : decode cX10_year 101 = .ok (.invokevirtual 114, 3) := by decide +kernel
theorem dX10_year_104 : decode cX10_year 104 = .ok (.putfield 126, 3) := by decide +kernel
theorem dX10_year_107 : decode cX10_year 107 = .ok (.goto 73, 3) := by decide +kernel
theorem dX10_year_110 : decode cX10_year 110 = .ok (.iload 7, 2) := by decide +kernel
theorem dX10_year_112 : decode cX10_year 112 = .ok (.iconst 3, 1) := by decide +kernel
theorem dX10_year_113 : decode cX10_year 113 = .ok (.if_icmp .ne 16, 3) := by decide +kernel
theorem dX10_year_116 : decode cX10_year 116 = .ok (.aload_n 0, 1) := by decide +kernel
theorem dX10_year_117 : decode cX10_year 117 = .ok (.aload_n 0, 1) := by decide +kernel
theorem dX10_year_118 : decode cX10_year 118 = .ok (.iload 6, 2) := by decide +kernel
theorem dX10_year_120 : decode cX10_year 120 = .ok (.invokevirtual 108, 3) := by decide +kernel
theorem dX10_year_123 : decode cX10_year 123 = .ok (.putfield 126, 3) := by decide +kernel
theorem dX10_year_126 : decode cX10_year 126 = .ok (.goto 54, 3) := by decide +kernel
theorem dX10_year_129 : decode cX10_year 129 = .ok (.iload 7, 2) := by decide +kernel
theorem dX10_year_131 : decode cX10_year 131 = .ok (.iconst 4, 1) := by decide +kernel
theorem dX10_year_132 : decode cX10_year 132 = .ok (.if_icmp .ne 21, 3) := by decide +kernel
theorem dX10_year_135 : decode cX10_year 135 = .ok (.aload_n 0, 1) := by decide +kernel
theorem dX10_year_136 : decode cX10_year 136 = .ok (.aload_n 0, 1) := by decide +kernel
theorem dX10_year_137 : decode cX10_year 137 = .ok (.iload 6, 2) := by decide +kernel
theorem dX10_year_139 : decode cX10_year 139 = .ok (.iload 8, 2) := by decide +kernel
theorem dX10_year_141 : decode cX10_year 141 = .ok (.bipush 7, 2) := by decide +kernel
theorem dX10_year_143 : decode cX10_year 143 = .ok (.irem, 1) := by decide +kernel
theorem dX10_year_144 : decode cX10_year 144 = .ok (.invokevirtual 111, 3) := by decide +kernel
theorem dX10_year_147 : decode cX10_year 147 = .ok (.putfield 126, 3) := by decide +kernel
theorem dX10_year_150 : decode cX10_year 150 = .ok (.goto 30, 3) := by decide +kernel
theorem dX10_year_153 : decode cX10_year 153 = .ok (.aload_n 0, 1) := by decide +kernel
theorem dX10_year_154 : decode cX10_year 154 = .ok (.iload 7, 2) := by decide +kernel
theorem dX10_year_156 : decode cX10_year 156 = .ok (.iconst 5, 1) := by decide +kernel
theorem dX10_year_157 : decode cX10_year 157 = .ok (.if_icmp .ne 16, 3) := by decide +kernel
theorem dX10_year_160 : decode cX10_year 160 = .ok (.aload_n 0, 1) := by decide +kernel
theorem dX10_year_161 : decode cX10_year 161 = .ok (.iconst 1, 1) := by decide +kernel
theorem dX10_year_162 : decode cX10_year 162 = .ok (.iload 8, 2) := by decide +kernel
theorem dX10_year_164 : decode cX10_year 164 = .ok (.iconst 3, 1) := by decide +kernel
theorem dX10_year_165 : decode cX10_year 165 = .ok (.irem, 1) := by decide +kernel
theorem dX10_year_166 : decode cX10_year 166 = .ok (.iadd, 1) := by decide +kernel
theorem dX10_year_167 : decode cX10_year 167 = .ok (.invokevirtual 105, 3) := by decide +kernel
theorem dX10_year_170 : decode cX10_year 170 = .ok (.goto 7, 3) := by decide +kernel
theorem dX10_year_173 : decode cX10_year 173 = .ok (.aload_n 0, 1) := by decide +kernel
theorem dX10_year_174 : decode cX10_year 174 = .ok (.invokevirtual 120, 3) := by decide +kernel
theorem dX10_year_177 : decode cX10_year 177 = .ok (.putfield 126, 3) := by decide +kernel
theorem dX10_year_180 : decode cX10_year 180 = .ok (.iinc 5 1, 3) := by decide +kernel
theorem dX10_year_183 : decode cX10_year 183 = .ok (.goto (-140), 3) := by decide +kernel
theorem dX10_year_186 : decode cX10_year 186 = .ok (.iconst 0, 1) := by decide +kernel
theorem dX10_year_187 : decode cX10_year 187 = .ok (.istore 5, 2) := by decide +kernel
theorem dX10_year_189 : decode cX10_year 189 = .ok (.iconst 0, 1) := by decide +kernel
theorem dX10_year_190 : decode cX10_year 190 = .ok (.istore 6, 2) := by decide +kernel
theorem dX10_year_192 : decode cX10_year 192 = .ok (.iload 6, 2) := by decide +kernel
theorem dX10_year_194 : decode cX10_year 194 = .ok (.bipush 7, 2) := by decide +kernel
theorem dX10_year_196 : decode cX10_year 196 = .ok (.if_icmp .ge 23, 3) := by decide +kernel
theorem dX10_year_199 : decode cX10_year 199 = .ok (.iload 5, 2) := by decide +kernel
theorem dX10_year_201 : decode cX10_year 201 = .ok (.aload_n 0, 1) := by decide +kernel
theorem dX10_year_202 : decode cX10_year 202 = .ok (.invokevirtual 135, 3) := by decide +kernel
theorem dX10_year_205 : decode cX10_year 205 = .ok (.iload 6, 2) := by decide +kernel
theorem dX10_year_207 : decode cX10_year 207 = .ok (.ishr, 1) := by decide +kernel
theorem dX10_year_208 : decode cX10_year 208 = .ok (.iconst 1, 1) := by decide +kernel
theorem dX10_year_209 : decode cX10_year 209 = .ok (.iand, 1) := by decide +kernel
theorem dX10_year_210 : decode cX10_year 210 = .ok (.iadd, 1) := by decide +kernel
theorem dX10_year_211 : decode cX10_year 211 = .ok (.istore 5, 2) := by decide +kernel
theorem dX10_year_213 : decode cX10_year 213 = .ok (.iinc 6 1, 3) := by decide +kernel
theorem dX10_year_216 : decode cX10_year 216 = .ok (.goto (-24), 3) := by decide +kernel
theorem dX10_year_219 : decode cX10_year 219 = .ok (.iload_n 3, 1) := by decide +kernel
theorem dX10_year_220 : decode cX10_year 220 = .ok (.ifCond .ne 11, 3) := by decide +kernel
theorem dX10_year_223 : decode cX10_year 223 = .ok (.aload_n 0, 1) := by decide +kernel
theorem dX10_year_224 : decode cX10_year 224 = .ok (.iconst 0, 1) := by decide +kernel
theorem dX10_year_225 : decode cX10_year 225 = .ok (.invokevirtual 73, 3) := by decide +kernel
theorem dX10_year_228 : decode cX10_year 228 = .ok (.goto 20, 3) := by decide +kernel
theorem dX10_year_231 : decode cX10_year 231 = .ok (.iload_n 3, 1) := by decide +kernel
theorem dX10_year_232 : decode cX10_year 232 = .ok (.iconst 1, 1) := by decide +kernel
theorem dX10_year_233 : decode cX10_year 233 = .ok (.if_icmp .ne 8, 3) := by decide +kernel
theorem dX10_year_236 : decode cX10_year 236 = .ok (.iload 5, 2) := by decide +kernel
theorem dX10_year_238 : decode cX10_year 238 = .ok (.goto 10, 3) := by decide +kernel
theorem dX10_year_241 : decode cX10_year 241 = .ok (.aload_n 0, 1) := by decide +kernel
theorem dX10_year_242 : decode cX10_year 242 = .ok (.getfield 13, 3) := by decide +kernel
theorem dX10_year_245 : decode cX10_year 245 = .ok (.bipush 56, 2) := by decide +kernel
theorem dX10_year_247 : decode cX10_year 247 = .ok (.iaload, 1) := by decide +kernel
theorem dX10_year_248 : decode cX10_year 248 = .ok (.ireturn, 1) := by decide +kernel
theorem dX10_image_0 : decode cX10_image 0 = .ok (.iload_n 1, 1) := by decide +kernel
theorem dX10_image_1 : decode cX10_image 1 = .ok (.iconst 0, 1) := by decide +kernel
theorem dX10_image_2 : decode cX10_image 2 = .ok (.iconst 1, 1) := by decide +kernel
theorem dX10_image_3 : decode cX10_image 3 = .ok (.invokestatic 62, 3) := by decide +kernel
theorem dX10_image_6 : decode cX10_image 6 = .ok (.ifCond .ne 6, 3) := by decide +kernel
theorem dX10_image_9 : decode cX10_image 9 = .ok (.bipush (-2), 2) := by decide +kernel
theorem dX10_image_11 : decode cX10_image 11 = .ok (.ireturn, 1) := by decide +kernel
theorem dX10_image_12 : decode cX10_image 12 = .ok (.sipush 180, 3) := by decide +kernel
theorem dX10_image_15 : decode cX10_image 15 = .ok (.iload_n 1, 1) := by decide +kernel
theorem dX10_image_16 : decode cX10_image 16 = .ok (.imul, 1) := by decide +kernel
theorem dX10_image_17 : decode cX10_image 17 = .ok (.istore_n 2, 1) := by decide +kernel
theorem dX10_image_18 : decode cX10_image 18 = .ok (.iconst 0, 1) := by decide +kernel
theorem dX10_image_19 : decode cX10_image 19 = .ok (.istore_n 3, 1) := by decide +kernel
theorem dX10_image_20 : decode cX10_image 20 = .ok (.iload_n 3, 1) := by decide +kernel
theorem dX10_image_21 : decode cX10_image 21 = .ok (.bipush 64, 2) := by decide +kernel
theorem dX10_image_23 : decode cX10_image 23 = .ok (.if_icmp .ge 23, 3) := by decide +kernel
theorem dX10_image_26 : decode cX10_image 26 = .ok (.aload_n 0, 1) := by decide +kernel
theorem dX10_image_27 : decode cX10_image 27 = .ok (.getfield 56, 3) := by decide +kernel
theorem dX10_image_30 : decode cX10_image 30 = .ok (.iload_n 2, 1) := by decide +kernel
theorem dX10_image_31 : decode cX10_image 31 = .ok (.iload_n 3, 1) := by decide +kernel
theorem dX10_image_32 : decode cX10_image 32 = .ok (.iadd, 1) := by decide +kernel
theorem dX10_image_33 : decode cX10_image 33 = .ok (.aload_n 0, 1) := by decide +kernel
theorem dX10_image_34 : decode cX10_image 34 = .ok (.getfield 7, 3) := by decide +kernel
theorem dX10_image_37 : decode cX10_image 37 = .ok (.iload_n 3, 1) := by decide +kernel
theorem dX10_image_38 : decode cX10_image 38 = .ok (.iaload, 1) := by decide +kernel
theorem dX10_image_39 : decode cX10_image 39 = .ok (.iastore, 1) := by decide +kernel
theorem dX10_image_40 : decode cX10_image 40 = .ok (.iinc 3 1, 3) := by decide +kernel
theorem dX10_image_43 : decode cX10_image 43 = .ok (.goto (-23), 3) := by decide +kernel
theorem dX10_image_46 : decode cX10_image 46 = .ok (.iconst 0, 1) := by decide +kernel
theorem dX10_image_47 : decode cX10_image 47 = .ok (.istore_n 3, 1) := by decide +kernel
theorem dX10_image_48 : decode cX10_image 48 = .ok (.iload_n 3, 1) := by decide +kernel
theorem dX10_image_49 : decode cX10_image 49 = .ok (.bipush 49, 2) := by decide +kernel
theorem dX10_image_51 : decode cX10_image 51 = .ok (.if_icmp .ge 26, 3) := by decide +kernel
theorem dX10_image_54 : decode cX10_image 54 = .ok (.aload_n 0, 1) := by decide +kernel
theorem dX10_image_55 : decode cX10_image 55 = .ok (.getfield 56, 3) := by decide +kernel
theorem dX10_image_58 : decode cX10_image 58 = .ok (.iload_n 2, 1) := by decide +kernel
theorem dX10_image_59 : decode cX10_image 59 = .ok (.bipush 64, 2) := by decide +kernel
theorem dX10_image_61 : decode cX10_image 61 = .ok (.iadd, 1) := by decide +kernel
theorem dX10_image_62 : decode cX10_image 62 = .ok (.iload_n 3, 1) := by decide +kernel
theorem dX10_image_63 : decode cX10_image 63 = .ok (.iadd, 1) := by decide +kernel
theorem dX10_image_64 : decode cX10_image 64 = .ok (.aload_n 0, 1) := by decide +kernel
theorem dX10_image_65 : decode cX10_image 65 = .ok (.getfield 16, 3) := by decide +kernel
theorem dX10_image_68 : decode cX10_image 68 = .ok (.iload_n 3, 1) := by decide +kernel
theorem dX10_image_69 : decode cX10_image 69 = .ok (.iaload, 1) := by decide +kernel
theorem dX10_image_70 : decode cX10_image 70 = .ok (.iastore, 1) := by decide +kernel
theorem dX10_image_71 : decode cX10_image 71 = .ok (.iinc 3 1, 3) := by decide +kernel
theorem dX10_image_74 : decode cX10_image 74 = .ok (.goto (-26), 3) := by decide +kernel
theorem dX10_image_77 : decode cX10_image 77 = .ok (.iconst 0, 1) := by decide +kernel
theorem dX10_image_78 : decode cX10_image 78 = .ok (.istore_n 3, 1) := by decide +kernel
theorem dX10_image_79 : decode cX10_image 79 = .ok (.iload_n 3, 1) := by decide +kernel
theorem dX10_image_80 : decode cX10_image 80 = .ok (.bipush 32, 2) := by decide +kernel
theorem dX10_image_82 : decode cX10_image 82 = .ok (.if_icmp .ge 26, 3) := by decide +kernel
theorem dX10_image_85 : decode cX10_image 85 = .ok (.aload_n 0, 1) := by decide +kernel
theorem dX10_image_86 : decode cX10_image 86 = .ok (.getfield 56, 3) := by decide +kernel
theorem dX10_image_89 : decode cX10_image 89 = .ok (.iload_n 2, 1) := by decide +kernel
theorem dX10_image_90 : decode cX10_image 90 = .ok (.bipush 113, 2) := by decide +kernel
theorem dX10_image_92 : decode cX10_image 92 = .ok (.iadd, 1) := by decide +kernel
theorem dX10_image_93 : decode cX10_image 93 = .ok (.iload_n 3, 1) := by decide +kernel
theorem dX10_image_94 : decode cX10_image 94 = .ok (.iadd, 1) := by decide +kernel
theorem dX10_image_95 : decode cX10_image 95 = .ok (.aload_n 0, 1) := by decide +kernel
theorem dX10_image_96 : decode cX10_image 96 = .ok (.getfield 19, 3) := by decide +kernel
theorem dX10_image_99 : decode cX10_image 99 = .ok (.iload_n 3, 1) := by decide +kernel
theorem dX10_image_100 : decode cX10_image 100 = .ok (.iaload, 1) := by decide +kernel
theorem dX10_image_101 : decode cX10_image 101 = .ok (.iastore, 1) := by decide +kernel
theorem dX10_image_102 : decode cX10_image 102 = .ok (.iinc 3 1, 3) := by decide +kernel
theorem dX10_image_105 : decode cX10_image 105 = .ok (.goto (-26), 3) := by decide +kernel
theorem dX10_image_108 : decode cX10_image 108 = .ok (.iconst 0, 1) := by decide +kernel
theorem dX10_image_109 : decode cX10_image 109 = .ok (.istore_n 3, 1) := by decide +kernel
theorem dX10_image_110 : decode cX10_image 110 = .ok (.iload_n 3, 1) := by decide +kernel
theorem dX10_image_111 : decode cX10_image 111 = .ok (.bipush 24, 2) := by decide +kernel
theorem dX10_image_113 : decode cX10_image 113 = .ok (.if_icmp .ge 27, 3) := by decide +kernel
theorem dX10_image_116 : decode cX10_image 116 = .ok (.aload_n 0, 1) := by decide +kernel
theorem dX10_image_117 : decode cX10_image 117 = .ok (.getfield 56, 3) := by decide +kernel
theorem dX10_image_120 : decode cX10_image 120 = .ok (.iload_n 2, 1) := by decide +kernel
theorem dX10_image_121 : decode cX10_image 121 = .ok (.sipush 145, 3) := by decide +kernel
theorem dX10_image_124 : decode cX10_image 124 = .ok (.iadd, 1) := by decide +kernel
theorem dX10_image_125 : decode cX10_image 125 = .ok (.iload_n 3, 1) := by decide +kernel
theorem dX10_image_126 : decode cX10_image 126 = .ok (.iadd, 1) := by decide +kernel
theorem dX10_image_127 : decode cX10_image 127 = .ok (.aload_n 0, 1) := by decide +kernel
theorem dX10_image_128 : decode cX10_image 128 = .ok (.getfield 22, 3) := by decide +kernel
theorem dX10_image_131 : decode cX10_image 131 = .ok (.iload_n 3, 1) := by decide +kernel
theorem dX10_image_132 : decode cX10_image 132 = .ok (.iaload, 1) := by decide +kernel
theorem dX10_image_133 : decode cX10_image 133 = .ok (.iastore, 1) := by decide +kernel
theorem dX10_image_134 : decode cX10_image 134 = .ok (.iinc 3 1, 3) := by decide +kernel
theorem dX10_image_137 : decode cX10_image 137 = .ok (.goto (-27), 3) := by decide +kernel
theorem dX10_image_140 : decode cX10_image 140 = .ok (.aload_n 0, 1) := by decide +kernel
theorem dX10_image_141 : decode cX10_image 141 = .ok (.getfield 56, 3) := by decide +kernel
theorem dX10_image_144 : decode cX10_image 144 = .ok (.iload_n 2, 1) := by decide +kernel
theorem dX10_image_145 : decode cX10_image 145 = .ok (.sipush 170, 3) := by decide +kernel
theorem dX10_image_148 : decode cX10_image 148 = .ok (.iadd, 1) := by decide +kernel
theorem dX10_image_149 : decode cX10_image 149 = .ok (.aload_n 0, 1) := by decide +kernel
theorem dX10_image_150 : decode cX10_image 150 = .ok (.getfield 157, 3) := by decide +kernel
theorem dX10_image_153 : decode cX10_image 153 = .ok (.iastore, 1) := by decide +kernel
theorem dX10_image_154 : decode cX10_image 154 = .ok (.aload_n 0, 1) := by decide +kernel
theorem dX10_image_155 : decode cX10_image 155 = .ok (.getfield 59, 3) := by decide +kernel
theorem dX10_image_158 : decode cX10_image 158 = .ok (.iload_n 1, 1) := by decide +kernel
theorem dX10_image_159 : decode cX10_image 159 = .ok (.iconst 1, 1) := by decide +kernel
theorem dX10_image_160 : decode cX10_image 160 = .ok (.bastore, 1) := by decide +kernel
theorem dX10_image_161 : decode cX10_image 161 = .ok (.iconst 1, 1) := by decide +kernel
theorem dX10_image_162 : decode cX10_image 162 = .ok (.ireturn, 1) := by decide +kernel
theorem dX10_restore_0 : decode cX10_restore 0 = .ok (.iload_n 1, 1) := by decide +kernel
theorem dX10_restore_1 : decode cX10_restore 1 = .ok (.iconst 0, 1) := by decide +kernel
theorem dX10_restore_2 : decode cX10_restore 2 = .ok (.iconst 1, 1) := by decide +kernel
theorem dX10_restore_3 : decode cX10_restore 3 = .ok (.invokestatic 62, 3) := by decide +kernel
theorem dX10_restore_6 : decode cX10_restore 6 = .ok (.ifCond .ne 6, 3) := by decide +kernel
theorem dX10_restore_9 : decode cX10_restore 9 = .ok (.bipush (-2), 2) := by decide +kernel
theorem dX10_restore_11 : decode cX10_restore 11 = .ok (.ireturn, 1) := by decide +kernel
theorem dX10_restore_12 : decode cX10_restore 12 = .ok (.aload_n 0, 1) := by decide +kernel
theorem dX10_restore_13 : decode cX10_restore 13 = .ok (.getfield 59, 3) := by decide +kernel
theorem dX10_restore_16 : decode cX10_restore 16 = .ok (.iload_n 1, 1) := by decide +kernel
theorem dX10_restore_17 : decode cX10_restore 17 = .ok (.baload, 1) := by decide +kernel
theorem dX10_restore_18 : decode cX10_restore 18 = .ok (.ifCond .ne 6, 3) := by decide +kernel
theorem dX10_restore_21 : decode cX10_restore 21 = .ok (.bipush (-3), 2) := by decide +kernel
theorem dX10_restore_23 : decode cX10_restore 23 = .ok (.ireturn, 1) := by decide +kernel
theorem dX10_restore_24 : decode cX10_restore 24 = .ok (.sipush 180, 3) := by decide +kernel
theorem dX10_restore_27 : decode cX10_restore 27 = .ok (.iload_n 1, 1) := by decide +kernel
theorem dX10_restore_28 : decode cX10_restore 28 = .ok (.imul, 1) := by decide +kernel
theorem dX10_restore_29 : decode cX10_restore 29 = .ok (.istore_n 2, 1) := by decide +kernel
theorem dX10_restore_30 : decode cX10_restore 30 = .ok (.iconst 0, 1) := by decide +kernel
theorem dX10_restore_31 : decode cX10_restore 31 = .ok (.istore_n 3, 1) := by decide +kernel
theorem dX10_restore_32 : decode cX10_restore 32 = .ok (.iload_n 3, 1) := by decide +kernel
theorem dX10_restore_33 : decode cX10_restore 33 = .ok (.bipush 64, 2) := by decide +kernel
theorem dX10_restore_35 : decode cX10_restore 35 = .ok (.if_icmp .ge 23, 3) := by decide +kernel
theorem dX10_restore_38 : decode cX10_restore 38 = .ok (.aload_n 0, 1) := by decide +kernel
theorem dX10_restore_39 : decode cX10_restore 39 = .ok (.getfield 7, 3) := by decide +kernel
theorem dX10_restore_42 : decode cX10_restore 42 = .ok (.iload_n 3, 1) := by decide +kernel
theorem dX10_restore_43 : decode cX10_restore 43 = .ok (.aload_n 0, 1) := by decide +kernel
theorem dX10_restore_44 : decode cX10_restore 44 = .ok (.getfield 56, 3) := by decide +kernel
theorem dX10_restore_47 : decode cX10_restore 47 = .ok (.iload_n 2, 1) := by decide +kernel
theorem dX10_restore_48 : decode cX10_restore 48 = .ok (.iload_n 3, 1) := by decide +kernel
theorem dX10_restore_49 : decode cX10_restore 49 = .ok (.iadd, 1) := by decide +kernel
theorem dX10_restore_50 : decode cX10_restore 50 = .ok (.iaload, 1) := by decide +kernel
theorem dX10_restore_51 : decode cX10_restore 51 = .ok (.iastore, 1) := by decide +kernel
theorem dX10_restore_52 : decode cX10_restore 52 = .ok (.iinc 3 1, 3) := by decide +kernel
theorem dX10_restore_55 : decode cX10_restore 55 = .ok (.goto (-23), 3) := by decide +kernel
theorem dX10_restore_58 : decode cX10_restore 58 = .ok (.iconst 0, 1) := by decide +kernel
theorem dX10_restore_59 : decode cX10_restore 59 = .ok (.istore_n 3, 1) := by decide +kernel
theorem dX10_restore_60 : decode cX10_restore 60 = .ok (.iload_n 3, 1) := by decide +kernel
theorem dX10_restore_61 : decode cX10_restore 61 = .ok (.bipush 49, 2) := by decide +kernel
theorem dX10_restore_63 : decode cX10_restore 63 = .ok (.if_icmp .ge 26, 3) := by decide +kernel
theorem dX10_restore_66 : decode cX10_restore 66 = .ok (.aload_n 0, 1) := by decide +kernel
theorem dX10_restore_67 : decode cX10_restore 67 = .ok (.getfield 16, 3) := by decide +kernel
theorem dX10_restore_70 : decode cX10_restore 70 = .ok (.iload_n 3, 1) := by decide +kernel
theorem dX10_restore_71 : decode cX10_restore 71 = .ok (.aload_n 0, 1) := by decide +kernel
theorem dX10_restore_72 : decode cX10_restore 72 = .ok (.getfield 56, 3) := by decide +kernel
theorem dX10_restore_75 : decode cX10_restore 75 = .ok (.iload_n 2, 1) := by decide +kernel
theorem dX10_restore_76 : decode cX10_restore 76 = .ok (.bipush 64, 2) := by decide +kernel
theorem dX10_restore_78 : decode cX10_restore 78 = .ok (.iadd, 1) := by decide +kernel
theorem dX10_restore_79 : decode cX10_restore 79 = .ok (.iload_n 3, 1) := by decide +kernel
theorem dX10_restore_80 : decode cX10_restore 80 = .ok (.iadd, 1) := by decide +kernel
theorem dX10_restore_81 : decode cX10_restore 81 = .ok (.iaload, 1) := by decide +kernel
theorem dX10_restore_82 : decode cX10_restore 82 = .ok (.iastore, 1) := by decide +kernel
theorem dX10_restore_83 : decode cX10_restore 83 = .ok (.iinc 3 1, 3) := by decide +kernel
theorem dX10_restore_86 : decode cX10_restore 86 = .ok (.goto (-26), 3) := by decide +kernel
theorem dX10_restore_89 : decode cX10_restore 89 = .ok (.iconst 0, 1) := by decide +kernel
theorem dX10_restore_90 : decode cX10_restore 90 = .ok (.istore_n 3, 1) := by decide +kernel
theorem dX10_restore_91 : decode cX10_restore 91 = .ok (.iload_n 3, 1) := by decide +kernel
theorem dX10_restore_92 : decode cX10_restore 92 = .ok (.bipush 32, 2) := by decide +kernel
theorem dX10_restore_94 : decode cX10_restore 94 = .ok (.if_icmp .ge 26, 3) := by decide +kernel
theorem dX10_restore_97 : decode cX10_restore 97 = .ok (.aload_n 0, 1) := by decide +kernel
theorem dX10_restore_98 : decode cX10_restore 98 = .ok (.getfield 19, 3) := by decide +kernel
theorem dX10_restore_101 : decode cX10_restore 101 = .ok (.iload_n 3, 1) := by decide +kernel
theorem dX10_restore_102 : decode cX10_restore 102 = .ok (.aload_n 0, 1) := by decide +kernel
theorem dX10_restore_103 : decode cX10_restore 103 = .ok (.getfield 56, 3) := by decide +kernel
theorem dX10_restore_106 : decode cX10_restore 106 = .ok (.iload_n 2, 1) := by decide +kernel
theorem dX10_restore_107 : decode cX10_restore 107 = .ok (.bipush 113, 2) := by decide +kernel
theorem dX10_restore_109 : decode cX10_restore 109 = .ok (.iadd, 1) := by decide +kernel
theorem dX10_restore_110 : decode cX10_restore 110 = .ok (.iload_n 3, 1) := by decide +kernel
theorem dX10_restore_111 : decode cX10_restore 111 = .ok (.iadd, 1) := by decide +kernel
theorem dX10_restore_112 : decode cX10_restore 112 = .ok (.iaload, 1) := by decide +kernel
theorem dX10_restore_113 : decode cX10_restore 113 = .ok (.iastore, 1) := by decide +kernel
theorem dX10_restore_114 : decode cX10_restore 114 = .ok (.iinc 3 1, 3) := by decide +kernel
theorem dX10_restore_117 : decode cX10_restore 117 = .ok (.goto (-26), 3) := by decide +kernel
theorem dX10_restore_120 : decode cX10_restore 120 = .ok (.iconst 0, 1) := by decide +kernel
theorem dX10_restore_121 : decode cX10_restore 121 = .ok (.istore_n 3, 1) := by decide +kernel
theorem dX10_restore_122 : decode cX10_restore 122 = .ok (.iload_n 3, 1) := by decide +kernel
theorem dX10_restore_123 : decode cX10_restore 123 = .ok (.bipush 24, 2) := by decide +kernel
theorem dX10_restore_125 : decode cX10_restore 125 = .ok (.if_icmp .ge 27, 3) := by decide +kernel
theorem dX10_restore_128 : decode cX10_restore 128 = .ok (.aload_n 0, 1) := by decide +kernel
theorem dX10_restore_129 : decode cX10_restore 129 = .ok (.getfield 22, 3) := by decide +kernel
theorem dX10_restore_132 : decode cX10_restore 132 = .ok (.iload_n 3, 1) := by decide +kernel
theorem dX10_restore_133 : decode cX10_restore 133 = .ok (.aload_n 0, 1) := by decide +kernel
theorem dX10_restore_134 : decode cX10_restore 134 = .ok (.getfield 56, 3) := by decide +kernel
theorem dX10_restore_137 : decode cX10_restore 137 = .ok (.iload_n 2, 1) := by decide +kernel
theorem dX10_restore_138 : decode cX10_restore 138 = .ok (.sipush 145, 3) := by decide +kernel
theorem dX10_restore_141 : decode cX10_restore 141 = .ok (.iadd, 1) := by decide +kernel
theorem dX10_restore_142 : decode cX10_restore 142 = .ok (.iload_n 3, 1) := by decide +kernel
theorem dX10_restore_143 : decode cX10_restore 143 = .ok (.iadd, 1) := by decide +kernel
theorem dX10_restore_144 : decode cX10_restore 144 = .ok (.iaload, 1) := by decide +kernel
theorem dX10_restore_145 : decode cX10_restore 145 = .ok (.iastore, 1) := by decide +kernel
theorem dX10_restore_146 : decode cX10_restore 146 = .ok (.iinc 3 1, 3) := by decide +kernel
theorem dX10_restore_149 : decode cX10_restore 149 = .ok (.goto (-27), 3) := by decide +kernel
theorem dX10_restore_152 : decode cX10_restore 152 = .ok (.aload_n 0, 1) := by decide +kernel
theorem dX10_restore_153 : decode cX10_restore 153 = .ok (.aload_n 0, 1) := by decide +kernel
theorem dX10_restore_154 : decode cX10_restore 154 = .ok (.getfield 56, 3) := by decide +kernel
theorem dX10_restore_157 : decode cX10_restore 157 = .ok (.iload_n 2, 1) := by decide +kernel
theorem dX10_restore_158 : decode cX10_restore 158 = .ok (.sipush 170, 3) := by decide +kernel
theorem dX10_restore_161 : decode cX10_restore 161 = .ok (.iadd, 1) := by decide +kernel
theorem dX10_restore_162 : decode cX10_restore 162 = .ok (.iaload, 1) := by decide +kernel
theorem dX10_restore_163 : decode cX10_restore 163 = .ok (.putfield 157, 3) := by decide +kernel
theorem dX10_restore_166 : decode cX10_restore 166 = .ok (.iconst 1, 1) := by decide +kernel
theorem dX10_restore_167 : decode cX10_restore 167 = .ok (.ireturn, 1) := by decide +kernel
theorem dX10_told_0 : decode cX10_told 0 = .ok (.iload_n 1, 1) := by decide +kernel
theorem dX10_told_1 : decode cX10_told 1 = .ok (.bipush 100, 2) := by decide +kernel
theorem dX10_told_3 : decode cX10_told 3 = .ok (.if_icmp .lt 75, 3) := by decide +kernel
theorem dX10_told_6 : decode cX10_told 6 = .ok (.iload_n 1, 1) := by decide +kernel
theorem dX10_told_7 : decode cX10_told 7 = .ok (.bipush 10, 2) := by decide +kernel
theorem dX10_told_9 : decode cX10_told 9 = .ok (.idiv, 1) := by decide +kernel
theorem dX10_told_10 : decode cX10_told 10 = .ok (.bipush 10, 2) := by decide +kernel
theorem dX10_told_12 : decode cX10_told 12 = .ok (.irem, 1) := by decide +kernel
theorem dX10_told_13 : decode cX10_told 13 = .ok (.istore_n 2, 1) := by decide +kernel
theorem dX10_told_14 : decode cX10_told 14 = .ok (.iload_n 1, 1) := by decide +kernel
theorem dX10_told_15 : decode cX10_told 15 = .ok (.bipush 10, 2) := by decide +kernel
theorem dX10_told_17 : decode cX10_told 17 = .ok (.irem, 1) := by decide +kernel
theorem dX10_told_18 : decode cX10_told 18 = .ok (.istore_n 3, 1) := by decide +kernel
theorem dX10_told_19 : decode cX10_told 19 = .ok (.iload_n 1, 1) := by decide +kernel
theorem dX10_told_20 : decode cX10_told 20 = .ok (.sipush 299, 3) := by decide +kernel
theorem dX10_told_23 : decode cX10_told 23 = .ok (.if_icmp .gt 17, 3) := by decide +kernel
theorem dX10_told_26 : decode cX10_told 26 = .ok (.iload_n 2, 1) := by decide +kernel
theorem dX10_told_27 : decode cX10_told 27 = .ok (.invokestatic 66, 3) := by decide +kernel
theorem dX10_told_30 : decode cX10_told 30 = .ok (.ifCond .eq 10, 3) := by decide +kernel
theorem dX10_told_33 : decode cX10_told 33 = .ok (.iload_n 3, 1) := by decide +kernel
theorem dX10_told_34 : decode cX10_told 34 = .ok (.invokestatic 66, 3) := by decide +kernel
theorem dX10_told_37 : decode cX10_told 37 = .ok (.ifCond .ne 8, 3) := by decide +kernel
theorem dX10_told_40 : decode cX10_told 40 = .ok (.bipush (-2), 2) := by decide +kernel
theorem dX10_told_42 : decode cX10_told 42 = .ok (.goto 35, 3) := by decide +kernel
theorem dX10_told_45 : decode cX10_told 45 = .ok (.iload_n 1, 1) := by decide +kernel
theorem dX10_told_46 : decode cX10_told 46 = .ok (.sipush 200, 3) := by decide +kernel
theorem dX10_told_49 : decode cX10_told 49 = .ok (.if_icmp .ge 17, 3) := by decide +kernel
theorem dX10_told_52 : decode cX10_told 52 = .ok (.aload_n 0, 1) := by decide +kernel
theorem dX10_told_53 : decode cX10_told 53 = .ok (.getfield 7, 3) := by decide +kernel
theorem dX10_told_56 : decode cX10_told 56 = .ok (.bipush 7, 2) := by decide +kernel
theorem dX10_told_58 : decode cX10_told 58 = .ok (.iload_n 2, 1) := by decide +kernel
theorem dX10_told_59 : decode cX10_told 59 = .ok (.imul, 1) := by decide +kernel
theorem dX10_told_60 : decode cX10_told 60 = .ok (.iload_n 3, 1) := by decide +kernel
theorem dX10_told_61 : decode cX10_told 61 = .ok (.iadd, 1) := by decide +kernel
theorem dX10_told_62 : decode cX10_told 62 = .ok (.iaload, 1) := by decide +kernel
theorem dX10_told_63 : decode cX10_told 63 = .ok (.goto 14, 3) := by decide +kernel
theorem dX10_told_66 : decode cX10_told 66 = .ok (.aload_n 0, 1) := by decide +kernel
theorem dX10_told_67 : decode cX10_told 67 = .ok (.getfield 16, 3) := by decide +kernel
theorem dX10_told_70 : decode cX10_told 70 = .ok (.bipush 7, 2) := by decide +kernel
theorem dX10_told_72 : decode cX10_told 72 = .ok (.iload_n 2, 1) := by decide +kernel
theorem dX10_told_73 : decode cX10_told 73 = .ok (.imul, 1) := by decide +kernel
theorem dX10_told_74 : decode cX10_told 74 = .ok (.iload_n 3, 1) := by decide +kernel
theorem dX10_told_75 : decode cX10_told 75 = .ok (.iadd, 1) := by decide +kernel
theorem dX10_told_76 : decode cX10_told 76 = .ok (.iaload, 1) := by decide +kernel
theorem dX10_told_77 : decode cX10_told 77 = .ok (.ireturn, 1) := by decide +kernel
theorem dX10_told_78 : decode cX10_told 78 = .ok (.iload_n 1, 1) := by decide +kernel
theorem dX10_told_79 : decode cX10_told 79 = .ok (.bipush 30, 2) := by decide +kernel
theorem dX10_told_81 : decode cX10_told 81 = .ok (.if_icmp .lt 37, 3) := by decide +kernel
theorem dX10_told_84 : decode cX10_told 84 = .ok (.iload_n 1, 1) := by decide +kernel
theorem dX10_told_85 : decode cX10_told 85 = .ok (.bipush 50, 2) := by decide +kernel
theorem dX10_told_87 : decode cX10_told 87 = .ok (.if_icmp .ge 28, 3) := by decide +kernel
theorem dX10_told_90 : decode cX10_told 90 = .ok (.iload_n 1, 1) := by decide +kernel
theorem dX10_told_91 : decode cX10_told 91 = .ok (.bipush 10, 2) := by decide +kernel
theorem dX10_told_93 : decode cX10_told 93 = .ok (.irem, 1) := by decide +kernel
theorem dX10_told_94 : decode cX10_told 94 = .ok (.iconst 4, 1) := by decide +kernel
theorem dX10_told_95 : decode cX10_told 95 = .ok (.if_icmp .ge 20, 3) := by decide +kernel
theorem dX10_told_98 : decode cX10_told 98 = .ok (.aload_n 0, 1) := by decide +kernel
theorem dX10_told_99 : decode cX10_told 99 = .ok (.iload_n 1, 1) := by decide +kernel
theorem dX10_told_100 : decode cX10_told 100 = .ok (.bipush 10, 2) := by decide +kernel
theorem dX10_told_102 : decode cX10_told 102 = .ok (.idiv, 1) := by decide +kernel
theorem dX10_told_103 : decode cX10_told 103 = .ok (.iconst 3, 1) := by decide +kernel
theorem dX10_told_104 : decode cX10_told 104 = .ok (.isub, 1) := by decide +kernel
theorem dX10_told_105 : decode cX10_told 105 = .ok (.iload_n 1, 1) := by decide +kernel
theorem dX10_told_106 : decode cX10_told 106 = .ok (.bipush 10, 2) := by decide +kernel
theorem dX10_told_108 : decode cX10_told 108 = .ok (.irem, 1) := by decide +kernel
theorem dX10_told_109 : decode cX10_told 109 = .ok (.invokevirtual 77, 3) := by decide +kernel
theorem dX10_told_112 : decode cX10_told 112 = .ok (.goto 5, 3) := by decide +kernel
theorem dX10_told_115 : decode cX10_told 115 = .ok (.bipush (-2), 2) := by decide +kernel
theorem dX10_told_117 : decode cX10_told 117 = .ok (.ireturn, 1) := by decide +kernel
theorem dX10_told_118 : decode cX10_told 118 = .ok (.iload_n 1, 1) := by decide +kernel
theorem dX10_told_119 : decode cX10_told 119 = .ok (.bipush 10, 2) := by decide +kernel
theorem dX10_told_121 : decode cX10_told 121 = .ok (.if_icmp .lt 46, 3) := by decide +kernel
theorem dX10_told_124 : decode cX10_told 124 = .ok (.iload_n 1, 1) := by decide +kernel
theorem dX10_told_125 : decode cX10_told 125 = .ok (.bipush 10, 2) := by decide +kernel
theorem dX10_told_127 : decode cX10_told 127 = .ok (.irem, 1) := by decide +kernel
theorem dX10_told_128 : decode cX10_told 128 = .ok (.invokestatic 66, 3) := by decide +kernel
theorem dX10_told_131 : decode cX10_told 131 = .ok (.ifCond .ne 8, 3) := by decide +kernel
theorem dX10_told_134 : decode cX10_told 134 = .ok (.bipush (-2), 2) := by decide +kernel
theorem dX10_told_136 : decode cX10_told 136 = .ok (.goto 30, 3) := by decide +kernel
theorem dX10_told_139 : decode cX10_told 139 = .ok (.iload_n 1, 1) := by decide +kernel
theorem dX10_told_140 : decode cX10_told 140 = .ok (.bipush 20, 2) := by decide +kernel
theorem dX10_told_142 : decode cX10_told 142 = .ok (.if_icmp .ge 15, 3) := by decide +kernel
theorem dX10_told_145 : decode cX10_told 145 = .ok (.aload_n 0, 1) := by decide +kernel
theorem dX10_told_146 : decode cX10_told 146 = .ok (.getfield 7, 3) := by decide +kernel
theorem dX10_told_149 : decode cX10_told 149 = .ok (.bipush 39, 2) := by decide +kernel
theorem dX10_told_151 : decode cX10_told 151 = .ok (.iload_n 1, 1) := by decide +kernel
theorem dX10_told_152 : decode cX10_told 152 = .ok (.iadd, 1) := by decide +kernel
theorem dX10_told_153 : decode cX10_told 153 = .ok (.iaload, 1) := by decide +kernel
theorem dX10_told_154 : decode cX10_told 154 = .ok (.goto 12, 3) := by decide +kernel
theorem dX10_told_157 : decode cX10_told 157 = .ok (.aload_n 0, 1) := by decide +kernel
theorem dX10_told_158 : decode cX10_told 158 = .ok (.getfield 7, 3) := by decide +kernel
theorem dX10_told_161 : decode cX10_told 161 = .ok (.bipush 36, 2) := by decide +kernel
theorem dX10_told_163 : decode cX10_told 163 = .ok (.iload_n 1, 1) := by decide +kernel
theorem dX10_told_164 : decode cX10_told 164 = .ok (.iadd, 1) := by decide +kernel
theorem dX10_told_165 : decode cX10_told 165 = .ok (.iaload, 1) := by decide +kernel
theorem dX10_told_166 : decode cX10_told 166 = .ok (.ireturn, 1) := by decide +kernel
theorem dX10_told_167 : decode cX10_told 167 = .ok (.aload_n 0, 1) := by decide +kernel
theorem dX10_told_168 : decode cX10_told 168 = .ok (.invokevirtual 70, 3) := by decide +kernel
theorem dX10_told_171 : decode cX10_told 171 = .ok (.iload_n 1, 1) := by decide +kernel
theorem dX10_told_172 : decode cX10_told 172 = .ok (.tableswitch 56 0 3 #[32, 37, 43, 48], 32) := by decide +kernel
theorem dX10_told_204 : decode cX10_told 204 = .ok (.aload_n 0, 1) := by decide +kernel
theorem dX10_told_205 : decode cX10_told 205 = .ok (.getfield 81, 3) := by decide +kernel
theorem dX10_told_208 : decode cX10_told 208 = .ok (.ireturn, 1) := by decide +kernel
theorem dX10_told_209 : decode cX10_told 209 = .ok (.aload_n 0, 1) := by decide +kernel
theorem dX10_told_210 : decode cX10_told 210 = .ok (.iconst 0, 1) := by decide +kernel
theorem dX10_told_211 : decode cX10_told 211 = .ok (.invokevirtual 73, 3) := by decide +kernel
theorem dX10_told_214 : decode cX10_told 214 = .ok (.ireturn, 1) := by decide +kernel
theorem dX10_told_215 : decode cX10_told 215 = .ok (.aload_n 0, 1) := by decide +kernel
theorem dX10_told_216 : decode cX10_told 216 = .ok (.invokevirtual 135, 3) := by decide +kernel
theorem dX10_told_219 : decode cX10_told 219 = .ok (.ireturn, 1) := by decide +kernel
theorem dX10_told_220 : decode cX10_told 220 = .ok (.aload_n 0, 1) := by decide +kernel
theorem dX10_told_221 : decode cX10_told 221 = .ok (.getfield 7, 3) := by decide +kernel
theorem dX10_told_224 : decode cX10_told 224 = .ok (.bipush 63, 2) := by decide +kernel
theorem dX10_told_226 : decode cX10_told 226 = .ok (.iaload, 1) := by decide +kernel
theorem dX10_told_227 : decode cX10_told 227 = .ok (.ireturn, 1) := by decide +kernel
theorem dX10_told_228 : decode cX10_told 228 = .ok (.iload_n 1, 1) := by decide +kernel
theorem dX10_told_229 : decode cX10_told 229 = .ok (.iconst 4, 1) := by decide +kernel
theorem dX10_told_230 : decode cX10_told 230 = .ok (.if_icmp .ne 10, 3) := by decide +kernel
theorem dX10_told_233 : decode cX10_told 233 = .ok (.aload_n 0, 1) := by decide +kernel
theorem dX10_told_234 : decode cX10_told 234 = .ok (.getfield 157, 3) := by decide +kernel
theorem dX10_told_237 : decode cX10_told 237 = .ok (.goto 5, 3) := by decide +kernel
theorem dX10_told_240 : decode cX10_told 240 = .ok (.bipush (-2), 2) := by decide +kernel
theorem dX10_told_242 : decode cX10_told 242 = .ok (.ireturn, 1) := by decide +kernel
theorem dJ6_compare_7cf53_0 : decode cJ6_compare_7cf53 0 = .ok (.iload_n 0, 1) := by decide +kernel
theorem dJ6_compare_7cf53_1 : decode cJ6_compare_7cf53 1 = .ok (.iload_n 1, 1) := by decide +kernel
theorem dJ6_compare_7cf53_2 : decode cJ6_compare_7cf53 2 = .ok (.if_icmp .ge 7, 3) := by decide +kernel
theorem dJ6_compare_7cf53_5 : decode cJ6_compare_7cf53 5 = .ok (.iconst (-1), 1) := by decide +kernel
theorem dJ6_compare_7cf53_6 : decode cJ6_compare_7cf53 6 = .ok (.goto 13, 3) := by decide +kernel
theorem dJ6_compare_7cf53_9 : decode cJ6_compare_7cf53 9 = .ok (.iload_n 0, 1) := by decide +kernel
theorem dJ6_compare_7cf53_10 : decode cJ6_compare_7cf53 10 = .ok (.iload_n 1, 1) := by decide +kernel
theorem dJ6_compare_7cf53_11 : decode cJ6_compare_7cf53 11 = .ok (.if_icmp .ne 7, 3) := by decide +kernel
theorem dJ6_compare_7cf53_14 : decode cJ6_compare_7cf53 14 = .ok (.iconst 0, 1) := by decide +kernel
theorem dJ6_compare_7cf53_15 : decode cJ6_compare_7cf53 15 = .ok (.goto 4, 3) := by decide +kernel
theorem dJ6_compare_7cf53_18 : decode cJ6_compare_7cf53 18 = .ok (.iconst 1, 1) := by decide +kernel
theorem dJ6_compare_7cf53_19 : decode cJ6_compare_7cf53 19 = .ok (.ireturn, 1) := by decide +kernel
theorem dJ6_bitCount_0f7a4_0 : decode cJ6_bitCount_0f7a4 0 = .ok (.iload_n 0, 1) := by decide +kernel
theorem dJ6_bitCount_0f7a4_1 : decode cJ6_bitCount_0f7a4 1 = .ok (.iload_n 0, 1) := by decide +kernel
theorem dJ6_bitCount_0f7a4_2 : decode cJ6_bitCount_0f7a4 2 = .ok (.iconst 1, 1) := by decide +kernel
theorem dJ6_bitCount_0f7a4_3 : decode cJ6_bitCount_0f7a4 3 = .ok (.iushr, 1) := by decide +kernel
theorem dJ6_bitCount_0f7a4_4 : decode cJ6_bitCount_0f7a4 4 = .ok (.ldc_w 265, 3) := by decide +kernel
theorem dJ6_bitCount_0f7a4_7 : decode cJ6_bitCount_0f7a4 7 = .ok (.iand, 1) := by decide +kernel
theorem dJ6_bitCount_0f7a4_8 : decode cJ6_bitCount_0f7a4 8 = .ok (.isub, 1) := by decide +kernel
theorem dJ6_bitCount_0f7a4_9 : decode cJ6_bitCount_0f7a4 9 = .ok (.istore_n 0, 1) := by decide +kernel
theorem dJ6_bitCount_0f7a4_10 : decode cJ6_bitCount_0f7a4 10 = .ok (.iload_n 0, 1) := by decide +kernel
theorem dJ6_bitCount_0f7a4_11 : decode cJ6_bitCount_0f7a4 11 = .ok (.ldc_w 266, 3) := by decide +kernel
theorem dJ6_bitCount_0f7a4_14 : decode cJ6_bitCount_0f7a4 14 = .ok (.iand, 1) := by decide +kernel
theorem dJ6_bitCount_0f7a4_15 : decode cJ6_bitCount_0f7a4 15 = .ok (.iload_n 0, 1) := by decide +kernel
theorem dJ6_bitCount_0f7a4_16 : decode cJ6_bitCount_0f7a4 16 = .ok (.iconst 2, 1) := by decide +kernel
theorem dJ6_bitCount_0f7a4_17 : decode cJ6_bitCount_0f7a4 17 = .ok (.iushr, 1) := by decide +kernel
theorem dJ6_bitCount_0f7a4_18 : decode cJ6_bitCount_0f7a4 18 = .ok (.ldc_w 266, 3) := by decide +kernel
theorem dJ6_bitCount_0f7a4_21 : decode cJ6_bitCount_0f7a4 21 = .ok (.iand, 1) := by decide +kernel
theorem dJ6_bitCount_0f7a4_22 : decode cJ6_bitCount_0f7a4 22 = .ok (.iadd, 1) := by decide +kernel
theorem dJ6_bitCount_0f7a4_23 : decode cJ6_bitCount_0f7a4 23 = .ok (.istore_n 0, 1) := by decide +kernel
theorem dJ6_bitCount_0f7a4_24 : decode cJ6_bitCount_0f7a4 24 = .ok (.iload_n 0, 1) := by decide +kernel
theorem dJ6_bitCount_0f7a4_25 : decode cJ6_bitCount_0f7a4 25 = .ok (.iload_n 0, 1) := by decide +kernel
theorem dJ6_bitCount_0f7a4_26 : decode cJ6_bitCount_0f7a4 26 = .ok (.iconst 4, 1) := by decide +kernel
theorem dJ6_bitCount_0f7a4_27 : decode cJ6_bitCount_0f7a4 27 = .ok (.iushr, 1) := by decide +kernel
theorem dJ6_bitCount_0f7a4_28 : decode cJ6_bitCount_0f7a4 28 = .ok (.iadd, 1) := by decide +kernel
theorem dJ6_bitCount_0f7a4_29 : decode cJ6_bitCount_0f7a4 29 = .ok (.ldc_w 267, 3) := by decide +kernel
theorem dJ6_bitCount_0f7a4_32 : decode cJ6_bitCount_0f7a4 32 = .ok (.iand, 1) := by decide +kernel
theorem dJ6_bitCount_0f7a4_33 : decode cJ6_bitCount_0f7a4 33 = .ok (.istore_n 0, 1) := by decide +kernel
theorem dJ6_bitCount_0f7a4_34 : decode cJ6_bitCount_0f7a4 34 = .ok (.iload_n 0, 1) := by decide +kernel
theorem dJ6_bitCount_0f7a4_35 : decode cJ6_bitCount_0f7a4 35 = .ok (.iload_n 0, 1) := by decide +kernel
theorem dJ6_bitCount_0f7a4_36 : decode cJ6_bitCount_0f7a4 36 = .ok (.bipush 8, 2) := by decide +kernel
theorem dJ6_bitCount_0f7a4_38 : decode cJ6_bitCount_0f7a4 38 = .ok (.iushr, 1) := by decide +kernel
theorem dJ6_bitCount_0f7a4_39 : decode cJ6_bitCount_0f7a4 39 = .ok (.iadd, 1) := by decide +kernel
theorem dJ6_bitCount_0f7a4_40 : decode cJ6_bitCount_0f7a4 40 = .ok (.istore_n 0, 1) := by decide +kernel
theorem dJ6_bitCount_0f7a4_41 : decode cJ6_bitCount_0f7a4 41 = .ok (.iload_n 0, 1) := by decide +kernel
theorem dJ6_bitCount_0f7a4_42 : decode cJ6_bitCount_0f7a4 42 = .ok (.iload_n 0, 1) := by decide +kernel
theorem dJ6_bitCount_0f7a4_43 : decode cJ6_bitCount_0f7a4 43 = .ok (.bipush 16, 2) := by decide +kernel
theorem dJ6_bitCount_0f7a4_45 : decode cJ6_bitCount_0f7a4 45 = .ok (.iushr, 1) := by decide +kernel
theorem dJ6_bitCount_0f7a4_46 : decode cJ6_bitCount_0f7a4 46 = .ok (.iadd, 1) := by decide +kernel
theorem dJ6_bitCount_0f7a4_47 : decode cJ6_bitCount_0f7a4 47 = .ok (.istore_n 0, 1) := by decide +kernel
theorem dJ6_bitCount_0f7a4_48 : decode cJ6_bitCount_0f7a4 48 = .ok (.iload_n 0, 1) := by decide +kernel
theorem dJ6_bitCount_0f7a4_49 : decode cJ6_bitCount_0f7a4 49 = .ok (.bipush 63, 2) := by decide +kernel
theorem dJ6_bitCount_0f7a4_51 : decode cJ6_bitCount_0f7a4 51 = .ok (.iand, 1) := by decide +kernel
theorem dJ6_bitCount_0f7a4_52 : decode cJ6_bitCount_0f7a4 52 = .ok (.ireturn, 1) := by decide +kernel
theorem dJ9_max_7cf53_0 : decode cJ9_max_7cf53 0 = .ok (.iload_n 0, 1) := by decide +kernel
theorem dJ9_max_7cf53_1 : decode cJ9_max_7cf53 1 = .ok (.iload_n 1, 1) := by decide +kernel
theorem dJ9_max_7cf53_2 : decode cJ9_max_7cf53 2 = .ok (.if_icmp .lt 7, 3) := by decide +kernel
theorem dJ9_max_7cf53_5 : decode cJ9_max_7cf53 5 = .ok (.iload_n 0, 1) := by decide +kernel
theorem dJ9_max_7cf53_6 : decode cJ9_max_7cf53 6 = .ok (.goto 4, 3) := by decide +kernel
theorem dJ9_max_7cf53_9 : decode cJ9_max_7cf53 9 = .ok (.iload_n 1, 1) := by decide +kernel
theorem dJ9_max_7cf53_10 : decode cJ9_max_7cf53 10 = .ok (.ireturn, 1) := by decide +kernel
theorem dJ9_min_7cf53_0 : decode cJ9_min_7cf53 0 = .ok (.iload_n 0, 1) := by decide +kernel
theorem dJ9_min_7cf53_1 : decode cJ9_min_7cf53 1 = .ok (.iload_n 1, 1) := by decide +kernel
theorem dJ9_min_7cf53_2 : decode cJ9_min_7cf53 2 = .ok (.if_icmp .gt 7, 3) := by decide +kernel
theorem dJ9_min_7cf53_5 : decode cJ9_min_7cf53 5 = .ok (.iload_n 0, 1) := by decide +kernel
theorem dJ9_min_7cf53_6 : decode cJ9_min_7cf53 6 = .ok (.goto 4, 3) := by decide +kernel
theorem dJ9_min_7cf53_9 : decode cJ9_min_7cf53 9 = .ok (.iload_n 1, 1) := by decide +kernel
theorem dJ9_min_7cf53_10 : decode cJ9_min_7cf53 10 = .ok (.ireturn, 1) := by decide +kernel
theorem dJ7_fill_53178_0 : decode cJ7_fill_53178 0 = .ok (.iconst 0, 1) := by decide +kernel
theorem dJ7_fill_53178_1 : decode cJ7_fill_53178 1 = .ok (.istore_n 2, 1) := by decide +kernel
theorem dJ7_fill_53178_2 : decode cJ7_fill_53178 2 = .ok (.aload_n 0, 1) := by decide +kernel
theorem dJ7_fill_53178_3 : decode cJ7_fill_53178 3 = .ok (.arraylength, 1) := by decide +kernel
theorem dJ7_fill_53178_4 : decode cJ7_fill_53178 4 = .ok (.istore_n 3, 1) := by decide +kernel
theorem dJ7_fill_53178_5 : decode cJ7_fill_53178 5 = .ok (.iload_n 2, 1) := by decide +kernel
theorem dJ7_fill_53178_6 : decode cJ7_fill_53178 6 = .ok (.iload_n 3, 1) := by decide +kernel
theorem dJ7_fill_53178_7 : decode cJ7_fill_53178 7 = .ok (.if_icmp .ge 13, 3) := by decide +kernel
theorem dJ7_fill_53178_10 : decode cJ7_fill_53178 10 = .ok (.aload_n 0, 1) := by decide +kernel
theorem dJ7_fill_53178_11 : decode cJ7_fill_53178 11 = .ok (.iload_n 2, 1) := by decide +kernel
theorem dJ7_fill_53178_12 : decode cJ7_fill_53178 12 = .ok (.iload_n 1, 1) := by decide +kernel
theorem dJ7_fill_53178_13 : decode cJ7_fill_53178 13 = .ok (.iastore, 1) := by decide +kernel
theorem dJ7_fill_53178_14 : decode cJ7_fill_53178 14 = .ok (.iinc 2 1, 3) := by decide +kernel
theorem dJ7_fill_53178_17 : decode cJ7_fill_53178 17 = .ok (.goto (-12), 3) := by decide +kernel
theorem dJ7_fill_53178_20 : decode cJ7_fill_53178 20 = .ok (.return_, 1) := by decide +kernel
theorem dL_law_0 : decode cL_law 0 = .ok (.new 7, 3) := by decide +kernel
theorem dL_law_3 : decode cL_law 3 = .ok (.dup, 1) := by decide +kernel
theorem dL_law_4 : decode cL_law 4 = .ok (.invokespecial 9, 3) := by decide +kernel
theorem dL_law_7 : decode cL_law 7 = .ok (.astore_n 1, 1) := by decide +kernel
theorem dL_law_8 : decode cL_law 8 = .ok (.new 10, 3) := by decide +kernel
theorem dL_law_11 : decode cL_law 11 = .ok (.dup, 1) := by decide +kernel
theorem dL_law_12 : decode cL_law 12 = .ok (.invokespecial 12, 3) := by decide +kernel
theorem dL_law_15 : decode cL_law 15 = .ok (.astore_n 2, 1) := by decide +kernel
theorem dL_law_16 : decode cL_law 16 = .ok (.iconst 0, 1) := by decide +kernel
theorem dL_law_17 : decode cL_law 17 = .ok (.istore_n 3, 1) := by decide +kernel
theorem dL_law_18 : decode cL_law 18 = .ok (.iload_n 3, 1) := by decide +kernel
theorem dL_law_19 : decode cL_law 19 = .ok (.aload_n 0, 1) := by decide +kernel
theorem dL_law_20 : decode cL_law 20 = .ok (.arraylength, 1) := by decide +kernel
theorem dL_law_21 : decode cL_law 21 = .ok (.bipush 6, 2) := by decide +kernel
theorem dL_law_23 : decode cL_law 23 = .ok (.isub, 1) := by decide +kernel
theorem dL_law_24 : decode cL_law 24 = .ok (.if_icmp .gt 919, 3) := by decide +kernel
theorem dL_law_27 : decode cL_law 27 = .ok (.aload_n 0, 1) := by decide +kernel
theorem dL_law_28 : decode cL_law 28 = .ok (.iload_n 3, 1) := by decide +kernel
theorem dL_law_29 : decode cL_law 29 = .ok (.iaload, 1) := by decide +kernel
theorem dL_law_30 : decode cL_law 30 = .ok (.bipush 31, 2) := by decide +kernel
theorem dL_law_32 : decode cL_law 32 = .ok (.iand, 1) := by decide +kernel
theorem dL_law_33 : decode cL_law 33 = .ok (.tableswitch 904 0 25 #[119, 162, 205, 248, 291, 314, 327, 340, 363, 376, 409, 442, 465, 498, 521, 534, 577, 636, 649, 672, 695, 728, 792, 835, 858, 881], 119) := by decide +kernel
theorem dL_law_152 : decode cL_law 152 = .ok (.aload_n 1, 1) := by decide +kernel
theorem dL_law_153 : decode cL_law 153 = .ok (.aload_n 0, 1) := by decide +kernel
theorem dL_law_154 : decode cL_law 154 = .ok (.iload_n 3, 1) := by decide +kernel
theorem dL_law_155 : decode cL_law 155 = .ok (.iconst 1, 1) := by decide +kernel
theorem dL_law_156 : decode cL_law 156 = .ok (.iadd, 1) := by decide +kernel
theorem dL_law_157 : decode cL_law 157 = .ok (.iaload, 1) := by decide +kernel
theorem dL_law_158 : decode cL_law 158 = .ok (.aload_n 0, 1) := by decide +kernel
theorem dL_law_159 : decode cL_law 159 = .ok (.iload_n 3, 1) := by decide +kernel
theorem dL_law_160 : decode cL_law 160 = .ok (.iconst 2, 1) := by decide +kernel
theorem dL_law_161 : decode cL_law 161 = .ok (.iadd, 1) := by decide +kernel
theorem dL_law_162 : decode cL_law 162 = .ok (.iaload, 1) := by decide +kernel
theorem dL_law_163 : decode cL_law 163 = .ok (.aload_n 0, 1) := by decide +kernel
theorem dL_law_164 : decode cL_law 164 = .ok (.iload_n 3, 1) := by decide +kernel
theorem dL_law_165 : decode cL_law 165 = .ok (.iconst 3, 1) := by decide +kernel
theorem dL_law_166 : decode cL_law 166 = .ok (.iadd, 1) := by decide +kernel
theorem dL_law_167 : decode cL_law 167 = .ok (.iaload, 1) := by decide +kernel
theorem dL_law_168 : decode cL_law 168 = .ok (.invokevirtual 13, 3) := by decide +kernel
theorem dL_law_171 : decode cL_law 171 = .ok (.aload_n 2, 1) := by decide +kernel
theorem dL_law_172 : decode cL_law 172 = .ok (.aload_n 0, 1) := by decide +kernel
theorem dL_law_173 : decode cL_law 173 = .ok (.iload_n 3, 1) := by decide +kernel
theorem dL_law_174 : decode cL_law 174 = .ok (.iconst 1, 1) := by decide +kernel
theorem dL_law_175 : decode cL_law 175 = .ok (.iadd, 1) := by decide +kernel
theorem dL_law_176 : decode cL_law 176 = .ok (.iaload, 1) := by decide +kernel
theorem dL_law_177 : decode cL_law 177 = .ok (.aload_n 0, 1) := by decide +kernel
theorem dL_law_178 : decode cL_law 178 = .ok (.iload_n 3, 1) := by decide +kernel
theorem dL_law_179 : decode cL_law 179 = .ok (.iconst 2, 1) := by decide +kernel
theorem dL_law_180 : decode cL_law 180 = .ok (.iadd, 1) := by decide +kernel
theorem dL_law_181 : decode cL_law 181 = .ok (.iaload, 1) := by decide +kernel
theorem dL_law_182 : decode cL_law 182 = .ok (.aload_n 0, 1) := by decide +kernel
theorem dL_law_183 : decode cL_law 183 = .ok (.iload_n 3, 1) := by decide +kernel
theorem dL_law_184 : decode cL_law 184 = .ok (.iconst 3, 1) := by decide +kernel
theorem dL_law_185 : decode cL_law 185 = .ok (.iadd, 1) := by decide +kernel
theorem dL_law_186 : decode cL_law 186 = .ok (.iaload, 1) := by decide +kernel
theorem dL_law_187 : decode cL_law 187 = .ok (.invokevirtual 17, 3) := by decide +kernel
theorem dL_law_190 : decode cL_law 190 = .ok (.if_icmp .eq 747, 3) := by decide +kernel
theorem dL_law_193 : decode cL_law 193 = .ok (.iconst 0, 1) := by decide +kernel
theorem dL_law_194 : decode cL_law 194 = .ok (.ireturn, 1) := by decide +kernel
theorem dL_law_195 : decode cL_law 195 = .ok (.aload_n 1, 1) := by decide +kernel
theorem dL_law_196 : decode cL_law 196 = .ok (.aload_n 0, 1) := by decide +kernel
theorem dL_law_197 : decode cL_law 197 = .ok (.iload_n 3, 1) := by decide +kernel
theorem dL_law_198 : decode cL_law 198 = .ok (.iconst 1, 1) := by decide +kernel
theorem dL_law_199 : decode cL_law 199 = .ok (.iadd, 1) := by decide +kernel
theorem dL_law_200 : decode cL_law 200 = .ok (.iaload, 1) := by decide +kernel
theorem dL_law_201 : decode cL_law 201 = .ok (.aload_n 0, 1) := by decide +kernel
theorem dL_law_202 : decode cL_law 202 = .ok (.iload_n 3, 1) := by decide +kernel
theorem dL_law_203 : decode cL_law 203 = .ok (.iconst 2, 1) := by decide +kernel
theorem dL_law_204 : decode cL_law 204 = .ok (.iadd, 1) := by decide +kernel
theorem dL_law_205 : decode cL_law 205 = .ok (.iaload, 1) := by decide +kernel
theorem dL_law_206 : decode cL_law 206 = .ok (.aload_n 0, 1) := by decide +kernel
theorem dL_law_207 : decode cL_law 207 = .ok (.iload_n 3, 1) := by decide +kernel
theorem dL_law_208 : decode cL_law 208 = .ok (.iconst 3, 1) := by decide +kernel
theorem dL_law_209 : decode cL_law 209 = .ok (.iadd, 1) := by decide +kernel
theorem dL_law_210 : decode cL_law 210 = .ok (.iaload, 1) := by decide +kernel
theorem dL_law_211 : decode cL_law 211 = .ok (.invokevirtual 18, 3) := by decide +kernel
theorem dL_law_214 : decode cL_law 214 = .ok (.aload_n 2, 1) := by decide +kernel
theorem dL_law_215 : decode cL_law 215 = .ok (.aload_n 0, 1) := by decide +kernel
theorem dL_law_216 : decode cL_law 216 = .ok (.iload_n 3, 1) := by decide +kernel
theorem dL_law_217 : decode cL_law 217 = .ok (.iconst 1, 1) := by decide +kernel
theorem dL_law_218 : decode cL_law 218 = .ok (.iadd, 1) := by decide +kernel
theorem dL_law_219 : decode cL_law 219 = .ok (.iaload, 1) := by decide +kernel
theorem dL_law_220 : decode cL_law 220 = .ok (.aload_n 0, 1) := by decide +kernel
theorem dL_law_221 : decode cL_law 221 = .ok (.iload_n 3, 1) := by decide +kernel
theorem dL_law_222 : decode cL_law 222 = .ok (.iconst 2, 1) := by decide +kernel
theorem dL_law_223 : decode cL_law 223 = .ok (.iadd, 1) := by decide +kernel
theorem dL_law_224 : decode cL_law 224 = .ok (.iaload, 1) := by decide +kernel
theorem dL_law_225 : decode cL_law 225 = .ok (.aload_n 0, 1) := by decide +kernel
theorem dL_law_226 : decode cL_law 226 = .ok (.iload_n 3, 1) := by decide +kernel
theorem dL_law_227 : decode cL_law 227 = .ok (.iconst 3, 1) := by decide +kernel
theorem dL_law_228 : decode cL_law 228 = .ok (.iadd, 1) := by decide +kernel
theorem dL_law_229 : decode cL_law 229 = .ok (.iaload, 1) := by decide +kernel
theorem dL_law_230 : decode cL_law 230 = .ok (.invokevirtual 21, 3) := by decide +kernel
theorem dL_law_233 : decode cL_law 233 = .ok (.if_icmp .eq 704, 3) := by decide +kernel
theorem dL_law_236 : decode cL_law 236 = .ok (.iconst 0, 1) := by decide +kernel
theorem dL_law_237 : decode cL_law 237 = .ok (.ireturn, 1) := by decide +kernel
theorem dL_law_238 : decode cL_law 238 = .ok (.aload_n 1, 1) := by decide +kernel
theorem dL_law_239 : decode cL_law 239 = .ok (.aload_n 0, 1) := by decide +kernel
theorem dL_law_240 : decode cL_law 240 = .ok (.iload_n 3, 1) := by decide +kernel
theorem dL_law_241 : decode cL_law 241 = .ok (.iconst 1, 1) := by decide +kernel
theorem dL_law_242 : decode cL_law 242 = .ok (.iadd, 1) := by decide +kernel
theorem dL_law_243 : decode cL_law 243 = .ok (.iaload, 1) := by decide +kernel
theorem dL_law_244 : decode cL_law 244 = .ok (.aload_n 0, 1) := by decide +kernel
theorem dL_law_245 : decode cL_law 245 = .ok (.iload_n 3, 1) := by decide +kernel
theorem dL_law_246 : decode cL_law 246 = .ok (.iconst 2, 1) := by decide +kernel
theorem dL_law_247 : decode cL_law 247 = .ok (.iadd, 1) := by decide +kernel
theorem dL_law_248 : decode cL_law 248 = .ok (.iaload, 1) := by decide +kernel
theorem dL_law_249 : decode cL_law 249 = .ok (.aload_n 0, 1) := by decide +kernel
theorem dL_law_250 : decode cL_law 250 = .ok (.iload_n 3, 1) := by decide +kernel
theorem dL_law_251 : decode cL_law 251 = .ok (.iconst 3, 1) := by decide +kernel
theorem dL_law_252 : decode cL_law 252 = .ok (.iadd, 1) := by decide +kernel
theorem dL_law_253 : decode cL_law 253 = .ok (.iaload, 1) := by decide +kernel
theorem dL_law_254 : decode cL_law 254 = .ok (.invokevirtual 22, 3) := by decide +kernel
theorem dL_law_257 : decode cL_law 257 = .ok (.aload_n 2, 1) := by decide +kernel
theorem dL_law_258 : decode cL_law 258 = .ok (.aload_n 0, 1) := by decide +kernel
theorem dL_law_259 : decode cL_law 259 = .ok (.iload_n 3, 1) := by decide +kernel
theorem dL_law_260 : decode cL_law 260 = .ok (.iconst 1, 1) := by decide +kernel
theorem dL_law_261 : decode cL_law 261 = .ok (.iadd, 1) := by decide +kernel
theorem dL_law_262 : decode cL_law 262 = .ok (.iaload, 1) := by decide +kernel
theorem dL_law_263 : decode cL_law 263 = .ok (.aload_n 0, 1) := by decide +kernel
theorem dL_law_264 : decode cL_law 264 = .ok (.iload_n 3, 1) := by decide +kernel
theorem dL_law_265 : decode cL_law 265 = .ok (.iconst 2, 1) := by decide +kernel
theorem dL_law_266 : decode cL_law 266 = .ok (.iadd, 1) := by decide +kernel
theorem dL_law_267 : decode cL_law 267 = .ok (.iaload, 1) := by decide +kernel
theorem dL_law_268 : decode cL_law 268 = .ok (.aload_n 0, 1) := by decide +kernel
theorem dL_law_269 : decode cL_law 269 = .ok (.iload_n 3, 1) := by decide +kernel
theorem dL_law_270 : decode cL_law 270 = .ok (.iconst 3, 1) := by decide +kernel
theorem dL_law_271 : decode cL_law 271 = .ok (.iadd, 1) := by decide +kernel
theorem dL_law_272 : decode cL_law 272 = .ok (.iaload, 1) := by decide +kernel
theorem dL_law_273 : decode cL_law 273 = .ok (.invokevirtual 25, 3) := by decide +kernel
theorem dL_law_276 : decode cL_law 276 = .ok (.if_icmp .eq 661, 3) := by decide +kernel
theorem dL_law_279 : decode cL_law 279 = .ok (.iconst 0, 1) := by decide +kernel
theorem dL_law_280 : decode cL_law 280 = .ok (.ireturn, 1) := by decide +kernel
theorem dL_law_281 : decode cL_law 281 = .ok (.aload_n 1, 1) := by decide +kernel
theorem dL_law_282 : decode cL_law 282 = .ok (.aload_n 0, 1) := by decide +kernel
theorem dL_law_283 : decode cL_law 283 = .ok (.iload_n 3, 1) := by decide +kernel
theorem dL_law_284 : decode cL_law 284 = .ok (.iconst 1, 1) := by decide +kernel
theorem dL_law_285 : decode cL_law 285 = .ok (.iadd, 1) := by decide +kernel
theorem dL_law_286 : decode cL_law 286 = .ok (.iaload, 1) := by decide +kernel
theorem dL_law_287 : decode cL_law 287 = .ok (.aload_n 0, 1) := by decide +kernel
theorem dL_law_288 : decode cL_law 288 = .ok (.iload_n 3, 1) := by decide +kernel
theorem dL_law_289 : decode cL_law 289 = .ok (.iconst 2, 1) := by decide +kernel
theorem dL_law_290 : decode cL_law 290 = .ok (.iadd, 1) := by decide +kernel
theorem dL_law_291 : decode cL_law 291 = .ok (.iaload, 1) := by decide +kernel
theorem dL_law_292 : decode cL_law 292 = .ok (.aload_n 0, 1) := by decide +kernel
theorem dL_law_293 : decode cL_law 293 = .ok (.iload_n 3, 1) := by decide +kernel
theorem dL_law_294 : decode cL_law 294 = .ok (.iconst 3, 1) := by decide +kernel
theorem dL_law_295 : decode cL_law 295 = .ok (.iadd, 1) := by decide +kernel
theorem dL_law_296 : decode cL_law 296 = .ok (.iaload, 1) := by decide +kernel
theorem dL_law_297 : decode cL_law 297 = .ok (.invokevirtual 26, 3) := by decide +kernel
theorem dL_law_300 : decode cL_law 300 = .ok (.aload_n 2, 1) := by decide +kernel
theorem dL_law_301 : decode cL_law 301 = .ok (.aload_n 0, 1) := by decide +kernel
theorem dL_law_302 : decode cL_law 302 = .ok (.iload_n 3, 1) := by decide +kernel
theorem dL_law_303 : decode cL_law 303 = .ok (.iconst 1, 1) := by decide +kernel
theorem dL_law_304 : decode cL_law 304 = .ok (.iadd, 1) := by decide +kernel
theorem dL_law_305 : decode cL_law 305 = .ok (.iaload, 1) := by decide +kernel
theorem dL_law_306 : decode cL_law 306 = .ok (.aload_n 0, 1) := by decide +kernel
theorem dL_law_307 : decode cL_law 307 = .ok (.iload_n 3, 1) := by decide +kernel
theorem dL_law_308 : decode cL_law 308 = .ok (.iconst 2, 1) := by decide +kernel
theorem dL_law_309 : decode cL_law 309 = .ok (.iadd, 1) := by decide +kernel
theorem dL_law_310 : decode cL_law 310 = .ok (.iaload, 1) := by decide +kernel
theorem dL_law_311 : decode cL_law 311 = .ok (.aload_n 0, 1) := by decide +kernel
theorem dL_law_312 : decode cL_law 312 = .ok (.iload_n 3, 1) := by decide +kernel
theorem dL_law_313 : decode cL_law 313 = .ok (.iconst 3, 1) := by decide +kernel
theorem dL_law_314 : decode cL_law 314 = .ok (.iadd, 1) := by decide +kernel
theorem dL_law_315 : decode cL_law 315 = .ok (.iaload, 1) := by decide +kernel
theorem dL_law_316 : decode cL_law 316 = .ok (.invokevirtual 29, 3) := by decide +kernel
theorem dL_law_319 : decode cL_law 319 = .ok (.if_icmp .eq 618, 3) := by decide +kernel
theorem dL_law_322 : decode cL_law 322 = .ok (.iconst 0, 1) := by decide +kernel
theorem dL_law_323 : decode cL_law 323 = .ok (.ireturn, 1) := by decide +kernel
theorem dL_law_324 : decode cL_law 324 = .ok (.aload_n 1, 1) := by decide +kernel
theorem dL_law_325 : decode cL_law 325 = .ok (.aload_n 0, 1) := by decide +kernel
theorem dL_law_326 : decode cL_law 326 = .ok (.iload_n 3, 1) := by decide +kernel
theorem dL_law_327 : decode cL_law 327 = .ok (.iconst 1, 1) := by decide +kernel
theorem dL_law_328 : decode cL_law 328 = .ok (.iadd, 1) := by decide +kernel
theorem dL_law_329 : decode cL_law 329 = .ok (.iaload, 1) := by decide +kernel
theorem dL_law_330 : decode cL_law 330 = .ok (.invokevirtual 30, 3) := by decide +kernel
theorem dL_law_333 : decode cL_law 333 = .ok (.aload_n 2, 1) := by decide +kernel
theorem dL_law_334 : decode cL_law 334 = .ok (.aload_n 0, 1) := by decide +kernel
theorem dL_law_335 : decode cL_law 335 = .ok (.iload_n 3, 1) := by decide +kernel
theorem dL_law_336 : decode cL_law 336 = .ok (.iconst 1, 1) := by decide +kernel
theorem dL_law_337 : decode cL_law 337 = .ok (.iadd, 1) := by decide +kernel
theorem dL_law_338 : decode cL_law 338 = .ok (.iaload, 1) := by decide +kernel
theorem dL_law_339 : decode cL_law 339 = .ok (.invokevirtual 34, 3) := by decide +kernel
theorem dL_law_342 : decode cL_law 342 = .ok (.if_icmp .eq 595, 3) := by decide +kernel
theorem dL_law_345 : decode cL_law 345 = .ok (.iconst 0, 1) := by decide +kernel
theorem dL_law_346 : decode cL_law 346 = .ok (.ireturn, 1) := by decide +kernel
theorem dL_law_347 : decode cL_law 347 = .ok (.aload_n 1, 1) := by decide +kernel
theorem dL_law_348 : decode cL_law 348 = .ok (.invokevirtual 35, 3) := by decide +kernel
theorem dL_law_351 : decode cL_law 351 = .ok (.aload_n 2, 1) := by decide +kernel
theorem dL_law_352 : decode cL_law 352 = .ok (.invokevirtual 39, 3) := by decide +kernel
theorem dL_law_355 : decode cL_law 355 = .ok (.if_icmp .eq 582, 3) := by decide +kernel
theorem dL_law_358 : decode cL_law 358 = .ok (.iconst 0, 1) := by decide +kernel
theorem dL_law_359 : decode cL_law 359 = .ok (.ireturn, 1) := by decide +kernel
theorem dL_law_360 : decode cL_law 360 = .ok (.aload_n 1, 1) := by decide +kernel
theorem dL_law_361 : decode cL_law 361 = .ok (.invokevirtual 40, 3) := by decide +kernel
theorem dL_law_364 : decode cL_law 364 = .ok (.aload_n 2, 1) := by decide +kernel
theorem dL_law_365 : decode cL_law 365 = .ok (.invokevirtual 43, 3) := by decide +kernel
theorem dL_law_368 : decode cL_law 368 = .ok (.if_icmp .eq 569, 3) := by decide +kernel
theorem dL_law_371 : decode cL_law 371 = .ok (.iconst 0, 1) := by decide +kernel
theorem dL_law_372 : decode cL_law 372 = .ok (.ireturn, 1) := by decide +kernel
theorem dL_law_373 : decode cL_law 373 = .ok (.aload_n 1, 1) := by decide +kernel
theorem dL_law_374 : decode cL_law 374 = .ok (.aload_n 0, 1) := by decide +kernel
theorem dL_law_375 : decode cL_law 375 = .ok (.iload_n 3, 1) := by decide +kernel
theorem dL_law_376 : decode cL_law 376 = .ok (.iconst 1, 1) := by decide +kernel
theorem dL_law_377 : decode cL_law 377 = .ok (.iadd, 1) := by decide +kernel
theorem dL_law_378 : decode cL_law 378 = .ok (.iaload, 1) := by decide +kernel
theorem dL_law_379 : decode cL_law 379 = .ok (.invokevirtual 44, 3) := by decide +kernel
theorem dL_law_382 : decode cL_law 382 = .ok (.aload_n 2, 1) := by decide +kernel
theorem dL_law_383 : decode cL_law 383 = .ok (.aload_n 0, 1) := by decide +kernel
theorem dL_law_384 : decode cL_law 384 = .ok (.iload_n 3, 1) := by decide +kernel
theorem dL_law_385 : decode cL_law 385 = .ok (.iconst 1, 1) := by decide +kernel
theorem dL_law_386 : decode cL_law 386 = .ok (.iadd, 1) := by decide +kernel
theorem dL_law_387 : decode cL_law 387 = .ok (.iaload, 1) := by decide +kernel
theorem dL_law_388 : decode cL_law 388 = .ok (.invokevirtual 47, 3) := by decide +kernel
theorem dL_law_391 : decode cL_law 391 = .ok (.if_icmp .eq 546, 3) := by decide +kernel
theorem dL_law_394 : decode cL_law 394 = .ok (.iconst 0, 1) := by decide +kernel
theorem dL_law_395 : decode cL_law 395 = .ok (.ireturn, 1) := by decide +kernel
theorem dL_law_396 : decode cL_law 396 = .ok (.aload_n 1, 1) := by decide +kernel
theorem dL_law_397 : decode cL_law 397 = .ok (.invokevirtual 48, 3) := by decide +kernel
theorem dL_law_400 : decode cL_law 400 = .ok (.aload_n 2, 1) := by decide +kernel
theorem dL_law_401 : decode cL_law 401 = .ok (.invokevirtual 51, 3) := by decide +kernel
theorem dL_law_404 : decode cL_law 404 = .ok (.if_icmp .eq 533, 3) := by decide +kernel
theorem dL_law_407 : decode cL_law 407 = .ok (.iconst 0, 1) := by decide +kernel
theorem dL_law_408 : decode cL_law 408 = .ok (.ireturn, 1) := by decide +kernel
theorem dL_law_409 : decode cL_law 409 = .ok (.aload_n 1, 1) := by decide +kernel
theorem dL_law_410 : decode cL_law 410 = .ok (.aload_n 0, 1) := by decide +kernel
theorem dL_law_411 : decode cL_law 411 = .ok (.iload_n 3, 1) := by decide +kernel
theorem dL_law_412 : decode cL_law 412 = .ok (.iconst 1, 1) := by decide +kernel
theorem dL_law_413 : decode cL_law 413 = .ok (.iadd, 1) := by decide +kernel
theorem dL_law_414 : decode cL_law 414 = .ok (.iaload, 1) := by decide +kernel
theorem dL_law_415 : decode cL_law 415 = .ok (.aload_n 0, 1) := by decide +kernel
theorem dL_law_416 : decode cL_law 416 = .ok (.iload_n 3, 1) := by decide +kernel
theorem dL_law_417 : decode cL_law 417 = .ok (.iconst 2, 1) := by decide +kernel
theorem dL_law_418 : decode cL_law 418 = .ok (.iadd, 1) := by decide +kernel
theorem dL_law_419 : decode cL_law 419 = .ok (.iaload, 1) := by decide +kernel
theorem dL_law_420 : decode cL_law 420 = .ok (.invokevirtual 52, 3) := by decide +kernel
theorem dL_law_423 : decode cL_law 423 = .ok (.aload_n 2, 1) := by decide +kernel
theorem dL_law_424 : decode cL_law 424 = .ok (.aload_n 0, 1) := by decide +kernel
theorem dL_law_425 : decode cL_law 425 = .ok (.iload_n 3, 1) := by decide +kernel
theorem dL_law_426 : decode cL_law 426 = .ok (.iconst 1, 1) := by decide +kernel
theorem dL_law_427 : decode cL_law 427 = .ok (.iadd, 1) := by decide +kernel
theorem dL_law_428 : decode cL_law 428 = .ok (.iaload, 1) := by decide +kernel
theorem dL_law_429 : decode cL_law 429 = .ok (.aload_n 0, 1) := by decide +kernel
theorem dL_law_430 : decode cL_law 430 = .ok (.iload_n 3, 1) := by decide +kernel
theorem dL_law_431 : decode cL_law 431 = .ok (.iconst 2, 1) := by decide +kernel
theorem dL_law_432 : decode cL_law 432 = .ok (.iadd, 1) := by decide +kernel
theorem dL_law_433 : decode cL_law 433 = .ok (.iaload, 1) := by decide +kernel
theorem dL_law_434 : decode cL_law 434 = .ok (.invokevirtual 56, 3) := by decide +kernel
theorem dL_law_437 : decode cL_law 437 = .ok (.if_icmp .eq 500, 3) := by decide +kernel
theorem dL_law_440 : decode cL_law 440 = .ok (.iconst 0, 1) := by decide +kernel
theorem dL_law_441 : decode cL_law 441 = .ok (.ireturn, 1) := by decide +kernel
theorem dL_law_442 : decode cL_law 442 = .ok (.aload_n 1, 1) := by decide +kernel
theorem dL_law_443 : decode cL_law 443 = .ok (.aload_n 0, 1) := by decide +kernel
theorem dL_law_444 : decode cL_law 444 = .ok (.iload_n 3, 1) := by decide +kernel
theorem dL_law_445 : decode cL_law 445 = .ok (.iconst 1, 1) := by decide +kernel
theorem dL_law_446 : decode cL_law 446 = .ok (.iadd, 1) := by decide +kernel
theorem dL_law_447 : decode cL_law 447 = .ok (.iaload, 1) := by decide +kernel
theorem dL_law_448 : decode cL_law 448 = .ok (.aload_n 0, 1) := by decide +kernel
theorem dL_law_449 : decode cL_law 449 = .ok (.iload_n 3, 1) := by decide +kernel
theorem dL_law_450 : decode cL_law 450 = .ok (.iconst 2, 1) := by decide +kernel
theorem dL_law_451 : decode cL_law 451 = .ok (.iadd, 1) := by decide +kernel
theorem dL_law_452 : decode cL_law 452 = .ok (.iaload, 1) := by decide +kernel
theorem dL_law_453 : decode cL_law 453 = .ok (.invokevirtual 57, 3) := by decide +kernel
theorem dL_law_456 : decode cL_law 456 = .ok (.aload_n 2, 1) := by decide +kernel
theorem dL_law_457 : decode cL_law 457 = .ok (.aload_n 0, 1) := by decide +kernel
theorem dL_law_458 : decode cL_law 458 = .ok (.iload_n 3, 1) := by decide +kernel
theorem dL_law_459 : decode cL_law 459 = .ok (.iconst 1, 1) := by decide +kernel
theorem dL_law_460 : decode cL_law 460 = .ok (.iadd, 1) := by decide +kernel
theorem dL_law_461 : decode cL_law 461 = .ok (.iaload, 1) := by decide +kernel
theorem dL_law_462 : decode cL_law 462 = .ok (.aload_n 0, 1) := by decide +kernel
theorem dL_law_463 : decode cL_law 463 = .ok (.iload_n 3, 1) := by decide +kernel
theorem dL_law_464 : decode cL_law 464 = .ok (.iconst 2, 1) := by decide +kernel
theorem dL_law_465 : decode cL_law 465 = .ok (.iadd, 1) := by decide +kernel
theorem dL_law_466 : decode cL_law 466 = .ok (.iaload, 1) := by decide +kernel
theorem dL_law_467 : decode cL_law 467 = .ok (.invokevirtual 60, 3) := by decide +kernel
theorem dL_law_470 : decode cL_law 470 = .ok (.if_icmp .eq 467, 3) := by decide +kernel
theorem dL_law_473 : decode cL_law 473 = .ok (.iconst 0, 1) := by decide +kernel
theorem dL_law_474 : decode cL_law 474 = .ok (.ireturn, 1) := by decide +kernel
theorem dL_law_475 : decode cL_law 475 = .ok (.aload_n 1, 1) := by decide +kernel
theorem dL_law_476 : decode cL_law 476 = .ok (.aload_n 0, 1) := by decide +kernel
theorem dL_law_477 : decode cL_law 477 = .ok (.iload_n 3, 1) := by decide +kernel
theorem dL_law_478 : decode cL_law 478 = .ok (.iconst 1, 1) := by decide +kernel
theorem dL_law_479 : decode cL_law 479 = .ok (.iadd, 1) := by decide +kernel
theorem dL_law_480 : decode cL_law 480 = .ok (.iaload, 1) := by decide +kernel
theorem dL_law_481 : decode cL_law 481 = .ok (.invokevirtual 61, 3) := by decide +kernel
theorem dL_law_484 : decode cL_law 484 = .ok (.aload_n 2, 1) := by decide +kernel
theorem dL_law_485 : decode cL_law 485 = .ok (.aload_n 0, 1) := by decide +kernel
theorem dL_law_486 : decode cL_law 486 = .ok (.iload_n 3, 1) := by decide +kernel
theorem dL_law_487 : decode cL_law 487 = .ok (.iconst 1, 1) := by decide +kernel
theorem dL_law_488 : decode cL_law 488 = .ok (.iadd, 1) := by decide +kernel
theorem dL_law_489 : decode cL_law 489 = .ok (.iaload, 1) := by decide +kernel
theorem dL_law_490 : decode cL_law 490 = .ok (.invokevirtual 64, 3) := by decide +kernel
theorem dL_law_493 : decode cL_law 493 = .ok (.if_icmp .eq 444, 3) := by decide +kernel
theorem dL_law_496 : decode cL_law 496 = .ok (.iconst 0, 1) := by decide +kernel
theorem dL_law_497 : decode cL_law 497 = .ok (.ireturn, 1) := by decide +kernel
theorem dL_law_498 : decode cL_law 498 = .ok (.aload_n 1, 1) := by decide +kernel
theorem dL_law_499 : decode cL_law 499 = .ok (.aload_n 0, 1) := by decide +kernel
theorem dL_law_500 : decode cL_law 500 = .ok (.iload_n 3, 1) := by decide +kernel
theorem dL_law_501 : decode cL_law 501 = .ok (.iconst 1, 1) := by decide +kernel
theorem dL_law_502 : decode cL_law 502 = .ok (.iadd, 1) := by decide +kernel
theorem dL_law_503 : decode cL_law 503 = .ok (.iaload, 1) := by decide +kernel
theorem dL_law_504 : decode cL_law 504 = .ok (.aload_n 0, 1) := by decide +kernel
theorem dL_law_505 : decode cL_law 505 = .ok (.iload_n 3, 1) := by decide +kernel
theorem dL_law_506 : decode cL_law 506 = .ok (.iconst 2, 1) := by decide +kernel
theorem dL_law_507 : decode cL_law 507 = .ok (.iadd, 1) := by decide +kernel
theorem dL_law_508 : decode cL_law 508 = .ok (.iaload, 1) := by decide +kernel
theorem dL_law_509 : decode cL_law 509 = .ok (.invokevirtual 65, 3) := by decide +kernel
theorem dL_law_512 : decode cL_law 512 = .ok (.aload_n 2, 1) := by decide +kernel
theorem dL_law_513 : decode cL_law 513 = .ok (.aload_n 0, 1) := by decide +kernel
theorem dL_law_514 : decode cL_law 514 = .ok (.iload_n 3, 1) := by decide +kernel
theorem dL_law_515 : decode cL_law 515 = .ok (.iconst 1, 1) := by decide +kernel
theorem dL_law_516 : decode cL_law 516 = .ok (.iadd, 1) := by decide +kernel
theorem dL_law_517 : decode cL_law 517 = .ok (.iaload, 1) := by decide +kernel
theorem dL_law_518 : decode cL_law 518 = .ok (.aload_n 0, 1) := by decide +kernel
theorem dL_law_519 : decode cL_law 519 = .ok (.iload_n 3, 1) := by decide +kernel
theorem dL_law_520 : decode cL_law 520 = .ok (.iconst 2, 1) := by decide +kernel
theorem dL_law_521 : decode cL_law 521 = .ok (.iadd, 1) := by decide +kernel
theorem dL_law_522 : decode cL_law 522 = .ok (.iaload, 1) := by decide +kernel
theorem dL_law_523 : decode cL_law 523 = .ok (.invokevirtual 68, 3) := by decide +kernel
theorem dL_law_526 : decode cL_law 526 = .ok (.if_icmp .eq 411, 3) := by decide +kernel
theorem dL_law_529 : decode cL_law 529 = .ok (.iconst 0, 1) := by decide +kernel
theorem dL_law_530 : decode cL_law 530 = .ok (.ireturn, 1) := by decide +kernel
theorem dL_law_531 : decode cL_law 531 = .ok (.aload_n 1, 1) := by decide +kernel
theorem dL_law_532 : decode cL_law 532 = .ok (.aload_n 0, 1) := by decide +kernel
theorem dL_law_533 : decode cL_law 533 = .ok (.iload_n 3, 1) := by decide +kernel
theorem dL_law_534 : decode cL_law 534 = .ok (.iconst 1, 1) := by decide +kernel
theorem dL_law_535 : decode cL_law 535 = .ok (.iadd, 1) := by decide +kernel
theorem dL_law_536 : decode cL_law 536 = .ok (.iaload, 1) := by decide +kernel
theorem dL_law_537 : decode cL_law 537 = .ok (.invokevirtual 69, 3) := by decide +kernel
theorem dL_law_540 : decode cL_law 540 = .ok (.aload_n 2, 1) := by decide +kernel
theorem dL_law_541 : decode cL_law 541 = .ok (.aload_n 0, 1) := by decide +kernel
theorem dL_law_542 : decode cL_law 542 = .ok (.iload_n 3, 1) := by decide +kernel
theorem dL_law_543 : decode cL_law 543 = .ok (.iconst 1, 1) := by decide +kernel
theorem dL_law_544 : decode cL_law 544 = .ok (.iadd, 1) := by decide +kernel
theorem dL_law_545 : decode cL_law 545 = .ok (.iaload, 1) := by decide +kernel
theorem dL_law_546 : decode cL_law 546 = .ok (.invokevirtual 72, 3) := by decide +kernel
theorem dL_law_549 : decode cL_law 549 = .ok (.if_icmp .eq 388, 3) := by decide +kernel
theorem dL_law_552 : decode cL_law 552 = .ok (.iconst 0, 1) := by decide +kernel
theorem dL_law_553 : decode cL_law 553 = .ok (.ireturn, 1) := by decide +kernel
theorem dL_law_554 : decode cL_law 554 = .ok (.aload_n 1, 1) := by decide +kernel
theorem dL_law_555 : decode cL_law 555 = .ok (.invokevirtual 73, 3) := by decide +kernel
theorem dL_law_558 : decode cL_law 558 = .ok (.aload_n 2, 1) := by decide +kernel
theorem dL_law_559 : decode cL_law 559 = .ok (.invokevirtual 76, 3) := by decide +kernel
theorem dL_law_562 : decode cL_law 562 = .ok (.if_icmp .eq 375, 3) := by decide +kernel
theorem dL_law_565 : decode cL_law 565 = .ok (.iconst 0, 1) := by decide +kernel
theorem dL_law_566 : decode cL_law 566 = .ok (.ireturn, 1) := by decide +kernel
theorem dL_law_567 : decode cL_law 567 = .ok (.aload_n 1, 1) := by decide +kernel
theorem dL_law_568 : decode cL_law 568 = .ok (.aload_n 0, 1) := by decide +kernel
theorem dL_law_569 : decode cL_law 569 = .ok (.iload_n 3, 1) := by decide +kernel
theorem dL_law_570 : decode cL_law 570 = .ok (.iconst 1, 1) := by decide +kernel
theorem dL_law_571 : decode cL_law 571 = .ok (.iadd, 1) := by decide +kernel
theorem dL_law_572 : decode cL_law 572 = .ok (.iaload, 1) := by decide +kernel
theorem dL_law_573 : decode cL_law 573 = .ok (.aload_n 0, 1) := by decide +kernel
theorem dL_law_574 : decode cL_law 574 = .ok (.iload_n 3, 1) := by decide +kernel
theorem dL_law_575 : decode cL_law 575 = .ok (.iconst 2, 1) := by decide +kernel
theorem dL_law_576 : decode cL_law 576 = .ok (.iadd, 1) := by decide +kernel
theorem dL_law_577 : decode cL_law 577 = .ok (.iaload, 1) := by decide +kernel
theorem dL_law_578 : decode cL_law 578 = .ok (.aload_n 0, 1) := by decide +kernel
theorem dL_law_579 : decode cL_law 579 = .ok (.iload_n 3, 1) := by decide +kernel
theorem dL_law_580 : decode cL_law 580 = .ok (.iconst 3, 1) := by decide +kernel
theorem dL_law_581 : decode cL_law 581 = .ok (.iadd, 1) := by decide +kernel
theorem dL_law_582 : decode cL_law 582 = .ok (.iaload, 1) := by decide +kernel
theorem dL_law_583 : decode cL_law 583 = .ok (.invokevirtual 77, 3) := by decide +kernel
theorem dL_law_586 : decode cL_law 586 = .ok (.aload_n 2, 1) := by decide +kernel
theorem dL_law_587 : decode cL_law 587 = .ok (.aload_n 0, 1) := by decide +kernel
theorem dL_law_588 : decode cL_law 588 = .ok (.iload_n 3, 1) := by decide +kernel
theorem dL_law_589 : decode cL_law 589 = .ok (.iconst 1, 1) := by decide +kernel
theorem dL_law_590 : decode cL_law 590 = .ok (.iadd, 1) := by decide +kernel
theorem dL_law_591 : decode cL_law 591 = .ok (.iaload, 1) := by decide +kernel
theorem dL_law_592 : decode cL_law 592 = .ok (.aload_n 0, 1) := by decide +kernel
theorem dL_law_593 : decode cL_law 593 = .ok (.iload_n 3, 1) := by decide +kernel
theorem dL_law_594 : decode cL_law 594 = .ok (.iconst 2, 1) := by decide +kernel
theorem dL_law_595 : decode cL_law 595 = .ok (.iadd, 1) := by decide +kernel
theorem dL_law_596 : decode cL_law 596 = .ok (.iaload, 1) := by decide +kernel
theorem dL_law_597 : decode cL_law 597 = .ok (.aload_n 0, 1) := by decide +kernel
theorem dL_law_598 : decode cL_law 598 = .ok (.iload_n 3, 1) := by decide +kernel
theorem dL_law_599 : decode cL_law 599 = .ok (.iconst 3, 1) := by decide +kernel
theorem dL_law_600 : decode cL_law 600 = .ok (.iadd, 1) := by decide +kernel
theorem dL_law_601 : decode cL_law 601 = .ok (.iaload, 1) := by decide +kernel
theorem dL_law_602 : decode cL_law 602 = .ok (.invokevirtual 80, 3) := by decide +kernel
theorem dL_law_605 : decode cL_law 605 = .ok (.if_icmp .eq 332, 3) := by decide +kernel
theorem dL_law_608 : decode cL_law 608 = .ok (.iconst 0, 1) := by decide +kernel
theorem dL_law_609 : decode cL_law 609 = .ok (.ireturn, 1) := by decide +kernel
theorem dL_law_610 : decode cL_law 610 = .ok (.aload_n 1, 1) := by decide +kernel
theorem dL_law_611 : decode cL_law 611 = .ok (.aload_n 0, 1) := by decide +kernel
theorem dL_law_612 : decode cL_law 612 = .ok (.iload_n 3, 1) := by decide +kernel
theorem dL_law_613 : decode cL_law 613 = .ok (.iconst 1, 1) := by decide +kernel
theorem dL_law_614 : decode cL_law 614 = .ok (.iadd, 1) := by decide +kernel
theorem dL_law_615 : decode cL_law 615 = .ok (.iaload, 1) := by decide +kernel
theorem dL_law_616 : decode cL_law 616 = .ok (.aload_n 0, 1) := by decide +kernel
theorem dL_law_617 : decode cL_law 617 = .ok (.iload_n 3, 1) := by decide +kernel
theorem dL_law_618 : decode cL_law 618 = .ok (.iconst 2, 1) := by decide +kernel
theorem dL_law_619 : decode cL_law 619 = .ok (.iadd, 1) := by decide +kernel
theorem dL_law_620 : decode cL_law 620 = .ok (.iaload, 1) := by decide +kernel
theorem dL_law_621 : decode cL_law 621 = .ok (.aload_n 0, 1) := by decide +kernel
theorem dL_law_622 : decode cL_law 622 = .ok (.iload_n 3, 1) := by decide +kernel
theorem dL_law_623 : decode cL_law 623 = .ok (.iconst 3, 1) := by decide +kernel
theorem dL_law_624 : decode cL_law 624 = .ok (.iadd, 1) := by decide +kernel
theorem dL_law_625 : decode cL_law 625 = .ok (.iaload, 1) := by decide +kernel
theorem dL_law_626 : decode cL_law 626 = .ok (.ifCond .eq 7, 3) := by decide +kernel
theorem dL_law_629 : decode cL_law 629 = .ok (.iconst 1, 1) := by decide +kernel
theorem dL_law_630 : decode cL_law 630 = .ok (.goto 4, 3) := by decide +kernel
theorem dL_law_633 : decode cL_law 633 = .ok (.iconst 0, 1) := by decide +kernel
theorem dL_law_634 : decode cL_law 634 = .ok (.invokevirtual 81, 3) := by decide +kernel
theorem dL_law_637 : decode cL_law 637 = .ok (.aload_n 2, 1) := by decide +kernel
theorem dL_law_638 : decode cL_law 638 = .ok (.aload_n 0, 1) := by decide +kernel
theorem dL_law_639 : decode cL_law 639 = .ok (.iload_n 3, 1) := by decide +kernel
theorem dL_law_640 : decode cL_law 640 = .ok (.iconst 1, 1) := by decide +kernel
theorem dL_law_641 : decode cL_law 641 = .ok (.iadd, 1) := by decide +kernel
theorem dL_law_642 : decode cL_law 642 = .ok (.iaload, 1) := by decide +kernel
theorem dL_law_643 : decode cL_law 643 = .ok (.aload_n 0, 1) := by decide +kernel
theorem dL_law_644 : decode cL_law 644 = .ok (.iload_n 3, 1) := by decide +kernel
theorem dL_law_645 : decode cL_law 645 = .ok (.iconst 2, 1) := by decide +kernel
theorem dL_law_646 : decode cL_law 646 = .ok (.iadd, 1) := by decide +kernel
theorem dL_law_647 : decode cL_law 647 = .ok (.iaload, 1) := by decide +kernel
theorem dL_law_648 : decode cL_law 648 = .ok (.aload_n 0, 1) := by decide +kernel
theorem dL_law_649 : decode cL_law 649 = .ok (.iload_n 3, 1) := by decide +kernel
theorem dL_law_650 : decode cL_law 650 = .ok (.iconst 3, 1) := by decide +kernel
theorem dL_law_651 : decode cL_law 651 = .ok (.iadd, 1) := by decide +kernel
theorem dL_law_652 : decode cL_law 652 = .ok (.iaload, 1) := by decide +kernel
theorem dL_law_653 : decode cL_law 653 = .ok (.ifCond .eq 7, 3) := by decide +kernel
theorem dL_law_656 : decode cL_law 656 = .ok (.iconst 1, 1) := by decide +kernel
theorem dL_law_657 : decode cL_law 657 = .ok (.goto 4, 3) := by decide +kernel
theorem dL_law_660 : decode cL_law 660 = .ok (.iconst 0, 1) := by decide +kernel
theorem dL_law_661 : decode cL_law 661 = .ok (.invokevirtual 85, 3) := by decide +kernel
theorem dL_law_664 : decode cL_law 664 = .ok (.if_icmp .eq 273, 3) := by decide +kernel
theorem dL_law_667 : decode cL_law 667 = .ok (.iconst 0, 1) := by decide +kernel
theorem dL_law_668 : decode cL_law 668 = .ok (.ireturn, 1) := by decide +kernel
theorem dL_law_669 : decode cL_law 669 = .ok (.aload_n 1, 1) := by decide +kernel
theorem dL_law_670 : decode cL_law 670 = .ok (.invokevirtual 86, 3) := by decide +kernel
theorem dL_law_673 : decode cL_law 673 = .ok (.aload_n 2, 1) := by decide +kernel
theorem dL_law_674 : decode cL_law 674 = .ok (.invokevirtual 89, 3) := by decide +kernel
theorem dL_law_677 : decode cL_law 677 = .ok (.if_icmp .eq 260, 3) := by decide +kernel
theorem dL_law_680 : decode cL_law 680 = .ok (.iconst 0, 1) := by decide +kernel
theorem dL_law_681 : decode cL_law 681 = .ok (.ireturn, 1) := by decide +kernel
theorem dL_law_682 : decode cL_law 682 = .ok (.aload_n 1, 1) := by decide +kernel
theorem dL_law_683 : decode cL_law 683 = .ok (.aload_n 0, 1) := by decide +kernel
theorem dL_law_684 : decode cL_law 684 = .ok (.iload_n 3, 1) := by decide +kernel
theorem dL_law_685 : decode cL_law 685 = .ok (.iconst 1, 1) := by decide +kernel
theorem dL_law_686 : decode cL_law 686 = .ok (.iadd, 1) := by decide +kernel
theorem dL_law_687 : decode cL_law 687 = .ok (.iaload, 1) := by decide +kernel
theorem dL_law_688 : decode cL_law 688 = .ok (.invokevirtual 90, 3) := by decide +kernel
theorem dL_law_691 : decode cL_law 691 = .ok (.aload_n 2, 1) := by decide +kernel
theorem dL_law_692 : decode cL_law 692 = .ok (.aload_n 0, 1) := by decide +kernel
theorem dL_law_693 : decode cL_law 693 = .ok (.iload_n 3, 1) := by decide +kernel
theorem dL_law_694 : decode cL_law 694 = .ok (.iconst 1, 1) := by decide +kernel
theorem dL_law_695 : decode cL_law 695 = .ok (.iadd, 1) := by decide +kernel
theorem dL_law_696 : decode cL_law 696 = .ok (.iaload, 1) := by decide +kernel
theorem dL_law_697 : decode cL_law 697 = .ok (.invokevirtual 93, 3) := by decide +kernel
theorem dL_law_700 : decode cL_law 700 = .ok (.if_icmp .eq 237, 3) := by decide +kernel
theorem dL_law_703 : decode cL_law 703 = .ok (.iconst 0, 1) := by decide +kernel
theorem dL_law_704 : decode cL_law 704 = .ok (.ireturn, 1) := by decide +kernel
theorem dL_law_705 : decode cL_law 705 = .ok (.aload_n 1, 1) := by decide +kernel
theorem dL_law_706 : decode cL_law 706 = .ok (.aload_n 0, 1) := by decide +kernel
theorem dL_law_707 : decode cL_law 707 = .ok (.iload_n 3, 1) := by decide +kernel
theorem dL_law_708 : decode cL_law 708 = .ok (.iconst 1, 1) := by decide +kernel
theorem dL_law_709 : decode cL_law 709 = .ok (.iadd, 1) := by decide +kernel
theorem dL_law_710 : decode cL_law 710 = .ok (.iaload, 1) := by decide +kernel
theorem dL_law_711 : decode cL_law 711 = .ok (.invokevirtual 94, 3) := by decide +kernel
theorem dL_law_714 : decode cL_law 714 = .ok (.aload_n 2, 1) := by decide +kernel
theorem dL_law_715 : decode cL_law 715 = .ok (.aload_n 0, 1) := by decide +kernel
theorem dL_law_716 : decode cL_law 716 = .ok (.iload_n 3, 1) := by decide +kernel
theorem dL_law_717 : decode cL_law 717 = .ok (.iconst 1, 1) := by decide +kernel
theorem dL_law_718 : decode cL_law 718 = .ok (.iadd, 1) := by decide +kernel
theorem dL_law_719 : decode cL_law 719 = .ok (.iaload, 1) := by decide +kernel
theorem dL_law_720 : decode cL_law 720 = .ok (.invokevirtual 97, 3) := by decide +kernel
theorem dL_law_723 : decode cL_law 723 = .ok (.if_icmp .eq 214, 3) := by decide +kernel
theorem dL_law_726 : decode cL_law 726 = .ok (.iconst 0, 1) := by decide +kernel
theorem dL_law_727 : decode cL_law 727 = .ok (.ireturn, 1) := by decide +kernel
theorem dL_law_728 : decode cL_law 728 = .ok (.aload_n 1, 1) := by decide +kernel
theorem dL_law_729 : decode cL_law 729 = .ok (.aload_n 0, 1) := by decide +kernel
theorem dL_law_730 : decode cL_law 730 = .ok (.iload_n 3, 1) := by decide +kernel
theorem dL_law_731 : decode cL_law 731 = .ok (.iconst 1, 1) := by decide +kernel
theorem dL_law_732 : decode cL_law 732 = .ok (.iadd, 1) := by decide +kernel
theorem dL_law_733 : decode cL_law 733 = .ok (.iaload, 1) := by decide +kernel
theorem dL_law_734 : decode cL_law 734 = .ok (.aload_n 0, 1) := by decide +kernel
theorem dL_law_735 : decode cL_law 735 = .ok (.iload_n 3, 1) := by decide +kernel
theorem dL_law_736 : decode cL_law 736 = .ok (.iconst 2, 1) := by decide +kernel
theorem dL_law_737 : decode cL_law 737 = .ok (.iadd, 1) := by decide +kernel
theorem dL_law_738 : decode cL_law 738 = .ok (.iaload, 1) := by decide +kernel
theorem dL_law_739 : decode cL_law 739 = .ok (.invokevirtual 98, 3) := by decide +kernel
theorem dL_law_742 : decode cL_law 742 = .ok (.aload_n 2, 1) := by decide +kernel
theorem dL_law_743 : decode cL_law 743 = .ok (.aload_n 0, 1) := by decide +kernel
theorem dL_law_744 : decode cL_law 744 = .ok (.iload_n 3, 1) := by decide +kernel
theorem dL_law_745 : decode cL_law 745 = .ok (.iconst 1, 1) := by decide +kernel
theorem dL_law_746 : decode cL_law 746 = .ok (.iadd, 1) := by decide +kernel
theorem dL_law_747 : decode cL_law 747 = .ok (.iaload, 1) := by decide +kernel
theorem dL_law_748 : decode cL_law 748 = .ok (.aload_n 0, 1) := by decide +kernel
theorem dL_law_749 : decode cL_law 749 = .ok (.iload_n 3, 1) := by decide +kernel
theorem dL_law_750 : decode cL_law 750 = .ok (.iconst 2, 1) := by decide +kernel
theorem dL_law_751 : decode cL_law 751 = .ok (.iadd, 1) := by decide +kernel
theorem dL_law_752 : decode cL_law 752 = .ok (.iaload, 1) := by decide +kernel
theorem dL_law_753 : decode cL_law 753 = .ok (.invokevirtual 101, 3) := by decide +kernel
theorem dL_law_756 : decode cL_law 756 = .ok (.if_icmp .eq 181, 3) := by decide +kernel
theorem dL_law_759 : decode cL_law 759 = .ok (.iconst 0, 1) := by decide +kernel
theorem dL_law_760 : decode cL_law 760 = .ok (.ireturn, 1) := by decide +kernel
theorem dL_law_761 : decode cL_law 761 = .ok (.aload_n 1, 1) := by decide +kernel
theorem dL_law_762 : decode cL_law 762 = .ok (.aload_n 0, 1) := by decide +kernel
theorem dL_law_763 : decode cL_law 763 = .ok (.iload_n 3, 1) := by decide +kernel
theorem dL_law_764 : decode cL_law 764 = .ok (.iconst 1, 1) := by decide +kernel
theorem dL_law_765 : decode cL_law 765 = .ok (.iadd, 1) := by decide +kernel
theorem dL_law_766 : decode cL_law 766 = .ok (.iaload, 1) := by decide +kernel
theorem dL_law_767 : decode cL_law 767 = .ok (.aload_n 0, 1) := by decide +kernel
theorem dL_law_768 : decode cL_law 768 = .ok (.iload_n 3, 1) := by decide +kernel
theorem dL_law_769 : decode cL_law 769 = .ok (.iconst 2, 1) := by decide +kernel
theorem dL_law_770 : decode cL_law 770 = .ok (.iadd, 1) := by decide +kernel
theorem dL_law_771 : decode cL_law 771 = .ok (.iaload, 1) := by decide +kernel
theorem dL_law_772 : decode cL_law 772 = .ok (.aload_n 0, 1) := by decide +kernel
theorem dL_law_773 : decode cL_law 773 = .ok (.iload_n 3, 1) := by decide +kernel
theorem dL_law_774 : decode cL_law 774 = .ok (.iconst 3, 1) := by decide +kernel
theorem dL_law_775 : decode cL_law 775 = .ok (.iadd, 1) := by decide +kernel
theorem dL_law_776 : decode cL_law 776 = .ok (.iaload, 1) := by decide +kernel
theorem dL_law_777 : decode cL_law 777 = .ok (.aload_n 0, 1) := by decide +kernel
theorem dL_law_778 : decode cL_law 778 = .ok (.iload_n 3, 1) := by decide +kernel
theorem dL_law_779 : decode cL_law 779 = .ok (.iconst 4, 1) := by decide +kernel
theorem dL_law_780 : decode cL_law 780 = .ok (.iadd, 1) := by decide +kernel
theorem dL_law_781 : decode cL_law 781 = .ok (.iaload, 1) := by decide +kernel
theorem dL_law_782 : decode cL_law 782 = .ok (.aload_n 0, 1) := by decide +kernel
theorem dL_law_783 : decode cL_law 783 = .ok (.iload_n 3, 1) := by decide +kernel
theorem dL_law_784 : decode cL_law 784 = .ok (.iconst 5, 1) := by decide +kernel
theorem dL_law_785 : decode cL_law 785 = .ok (.iadd, 1) := by decide +kernel
theorem dL_law_786 : decode cL_law 786 = .ok (.iaload, 1) := by decide +kernel
theorem dL_law_787 : decode cL_law 787 = .ok (.invokevirtual 102, 3) := by decide +kernel
theorem dL_law_790 : decode cL_law 790 = .ok (.aload_n 2, 1) := by decide +kernel
theorem dL_law_791 : decode cL_law 791 = .ok (.aload_n 0, 1) := by decide +kernel
theorem dL_law_792 : decode cL_law 792 = .ok (.iload_n 3, 1) := by decide +kernel
theorem dL_law_793 : decode cL_law 793 = .ok (.iconst 1, 1) := by decide +kernel
theorem dL_law_794 : decode cL_law 794 = .ok (.iadd, 1) := by decide +kernel
theorem dL_law_795 : decode cL_law 795 = .ok (.iaload, 1) := by decide +kernel
theorem dL_law_796 : decode cL_law 796 = .ok (.aload_n 0, 1) := by decide +kernel
theorem dL_law_797 : decode cL_law 797 = .ok (.iload_n 3, 1) := by decide +kernel
theorem dL_law_798 : decode cL_law 798 = .ok (.iconst 2, 1) := by decide +kernel
theorem dL_law_799 : decode cL_law 799 = .ok (.iadd, 1) := by decide +kernel
theorem dL_law_800 : decode cL_law 800 = .ok (.iaload, 1) := by decide +kernel
theorem dL_law_801 : decode cL_law 801 = .ok (.aload_n 0, 1) := by decide +kernel
theorem dL_law_802 : decode cL_law 802 = .ok (.iload_n 3, 1) := by decide +kernel
theorem dL_law_803 : decode cL_law 803 = .ok (.iconst 3, 1) := by decide +kernel
theorem dL_law_804 : decode cL_law 804 = .ok (.iadd, 1) := by decide +kernel
theorem dL_law_805 : decode cL_law 805 = .ok (.iaload, 1) := by decide +kernel
theorem dL_law_806 : decode cL_law 806 = .ok (.aload_n 0, 1) := by decide +kernel
theorem dL_law_807 : decode cL_law 807 = .ok (.iload_n 3, 1) := by decide +kernel
theorem dL_law_808 : decode cL_law 808 = .ok (.iconst 4, 1) := by decide +kernel
theorem dL_law_809 : decode cL_law 809 = .ok (.iadd, 1) := by decide +kernel
theorem dL_law_810 : decode cL_law 810 = .ok (.iaload, 1) := by decide +kernel
theorem dL_law_811 : decode cL_law 811 = .ok (.aload_n 0, 1) := by decide +kernel
theorem dL_law_812 : decode cL_law 812 = .ok (.iload_n 3, 1) := by decide +kernel
theorem dL_law_813 : decode cL_law 813 = .ok (.iconst 5, 1) := by decide +kernel
theorem dL_law_814 : decode cL_law 814 = .ok (.iadd, 1) := by decide +kernel
theorem dL_law_815 : decode cL_law 815 = .ok (.iaload, 1) := by decide +kernel
theorem dL_law_816 : decode cL_law 816 = .ok (.invokevirtual 106, 3) := by decide +kernel
theorem dL_law_819 : decode cL_law 819 = .ok (.lcmp, 1) := by decide +kernel
theorem dL_law_820 : decode cL_law 820 = .ok (.ifCond .eq 117, 3) := by decide +kernel
theorem dL_law_823 : decode cL_law 823 = .ok (.iconst 0, 1) := by decide +kernel
theorem dL_law_824 : decode cL_law 824 = .ok (.ireturn, 1) := by decide +kernel
theorem dL_law_825 : decode cL_law 825 = .ok (.aload_n 1, 1) := by decide +kernel
theorem dL_law_826 : decode cL_law 826 = .ok (.aload_n 0, 1) := by decide +kernel
theorem dL_law_827 : decode cL_law 827 = .ok (.iload_n 3, 1) := by decide +kernel
theorem dL_law_828 : decode cL_law 828 = .ok (.iconst 1, 1) := by decide +kernel
theorem dL_law_829 : decode cL_law 829 = .ok (.iadd, 1) := by decide +kernel
theorem dL_law_830 : decode cL_law 830 = .ok (.iaload, 1) := by decide +kernel
theorem dL_law_831 : decode cL_law 831 = .ok (.aload_n 0, 1) := by decide +kernel
theorem dL_law_832 : decode cL_law 832 = .ok (.iload_n 3, 1) := by decide +kernel
theorem dL_law_833 : decode cL_law 833 = .ok (.iconst 2, 1) := by decide +kernel
theorem dL_law_834 : decode cL_law 834 = .ok (.iadd, 1) := by decide +kernel
theorem dL_law_835 : decode cL_law 835 = .ok (.iaload, 1) := by decide +kernel
theorem dL_law_836 : decode cL_law 836 = .ok (.aload_n 0, 1) := by decide +kernel
theorem dL_law_837 : decode cL_law 837 = .ok (.iload_n 3, 1) := by decide +kernel
theorem dL_law_838 : decode cL_law 838 = .ok (.iconst 3, 1) := by decide +kernel
theorem dL_law_839 : decode cL_law 839 = .ok (.iadd, 1) := by decide +kernel
theorem dL_law_840 : decode cL_law 840 = .ok (.iaload, 1) := by decide +kernel
theorem dL_law_841 : decode cL_law 841 = .ok (.invokevirtual 107, 3) := by decide +kernel
theorem dL_law_844 : decode cL_law 844 = .ok (.aload_n 2, 1) := by decide +kernel
theorem dL_law_845 : decode cL_law 845 = .ok (.aload_n 0, 1) := by decide +kernel
theorem dL_law_846 : decode cL_law 846 = .ok (.iload_n 3, 1) := by decide +kernel
theorem dL_law_847 : decode cL_law 847 = .ok (.iconst 1, 1) := by decide +kernel
theorem dL_law_848 : decode cL_law 848 = .ok (.iadd, 1) := by decide +kernel
theorem dL_law_849 : decode cL_law 849 = .ok (.iaload, 1) := by decide +kernel
theorem dL_law_850 : decode cL_law 850 = .ok (.aload_n 0, 1) := by decide +kernel
theorem dL_law_851 : decode cL_law 851 = .ok (.iload_n 3, 1) := by decide +kernel
theorem dL_law_852 : decode cL_law 852 = .ok (.iconst 2, 1) := by decide +kernel
theorem dL_law_853 : decode cL_law 853 = .ok (.iadd, 1) := by decide +kernel
theorem dL_law_854 : decode cL_law 854 = .ok (.iaload, 1) := by decide +kernel
theorem dL_law_855 : decode cL_law 855 = .ok (.aload_n 0, 1) := by decide +kernel
theorem dL_law_856 : decode cL_law 856 = .ok (.iload_n 3, 1) := by decide +kernel
theorem dL_law_857 : decode cL_law 857 = .ok (.iconst 3, 1) := by decide +kernel
theorem dL_law_858 : decode cL_law 858 = .ok (.iadd, 1) := by decide +kernel
theorem dL_law_859 : decode cL_law 859 = .ok (.iaload, 1) := by decide +kernel
theorem dL_law_860 : decode cL_law 860 = .ok (.invokevirtual 110, 3) := by decide +kernel
theorem dL_law_863 : decode cL_law 863 = .ok (.if_icmp .eq 74, 3) := by decide +kernel
theorem dL_law_866 : decode cL_law 866 = .ok (.iconst 0, 1) := by decide +kernel
theorem dL_law_867 : decode cL_law 867 = .ok (.ireturn, 1) := by decide +kernel
theorem dL_law_868 : decode cL_law 868 = .ok (.aload_n 1, 1) := by decide +kernel
theorem dL_law_869 : decode cL_law 869 = .ok (.aload_n 0, 1) := by decide +kernel
theorem dL_law_870 : decode cL_law 870 = .ok (.iload_n 3, 1) := by decide +kernel
theorem dL_law_871 : decode cL_law 871 = .ok (.iconst 1, 1) := by decide +kernel
theorem dL_law_872 : decode cL_law 872 = .ok (.iadd, 1) := by decide +kernel
theorem dL_law_873 : decode cL_law 873 = .ok (.iaload, 1) := by decide +kernel
theorem dL_law_874 : decode cL_law 874 = .ok (.invokevirtual 111, 3) := by decide +kernel
theorem dL_law_877 : decode cL_law 877 = .ok (.aload_n 2, 1) := by decide +kernel
theorem dL_law_878 : decode cL_law 878 = .ok (.aload_n 0, 1) := by decide +kernel
theorem dL_law_879 : decode cL_law 879 = .ok (.iload_n 3, 1) := by decide +kernel
theorem dL_law_880 : decode cL_law 880 = .ok (.iconst 1, 1) := by decide +kernel
theorem dL_law_881 : decode cL_law 881 = .ok (.iadd, 1) := by decide +kernel
theorem dL_law_882 : decode cL_law 882 = .ok (.iaload, 1) := by decide +kernel
theorem dL_law_883 : decode cL_law 883 = .ok (.invokevirtual 114, 3) := by decide +kernel
theorem dL_law_886 : decode cL_law 886 = .ok (.if_icmp .eq 51, 3) := by decide +kernel
theorem dL_law_889 : decode cL_law 889 = .ok (.iconst 0, 1) := by decide +kernel
theorem dL_law_890 : decode cL_law 890 = .ok (.ireturn, 1) := by decide +kernel
theorem dL_law_891 : decode cL_law 891 = .ok (.aload_n 1, 1) := by decide +kernel
theorem dL_law_892 : decode cL_law 892 = .ok (.aload_n 0, 1) := by decide +kernel
theorem dL_law_893 : decode cL_law 893 = .ok (.iload_n 3, 1) := by decide +kernel
theorem dL_law_894 : decode cL_law 894 = .ok (.iconst 1, 1) := by decide +kernel
theorem dL_law_895 : decode cL_law 895 = .ok (.iadd, 1) := by decide +kernel
theorem dL_law_896 : decode cL_law 896 = .ok (.iaload, 1) := by decide +kernel
theorem dL_law_897 : decode cL_law 897 = .ok (.invokevirtual 115, 3) := by decide +kernel
theorem dL_law_900 : decode cL_law 900 = .ok (.aload_n 2, 1) := by decide +kernel
theorem dL_law_901 : decode cL_law 901 = .ok (.aload_n 0, 1) := by decide +kernel
theorem dL_law_902 : decode cL_law 902 = .ok (.iload_n 3, 1) := by decide +kernel
theorem dL_law_903 : decode cL_law 903 = .ok (.iconst 1, 1) := by decide +kernel
theorem dL_law_904 : decode cL_law 904 = .ok (.iadd, 1) := by decide +kernel
theorem dL_law_905 : decode cL_law 905 = .ok (.iaload, 1) := by decide +kernel
theorem dL_law_906 : decode cL_law 906 = .ok (.invokevirtual 118, 3) := by decide +kernel
theorem dL_law_909 : decode cL_law 909 = .ok (.if_icmp .eq 28, 3) := by decide +kernel
theorem dL_law_912 : decode cL_law 912 = .ok (.iconst 0, 1) := by decide +kernel
theorem dL_law_913 : decode cL_law 913 = .ok (.ireturn, 1) := by decide +kernel
theorem dL_law_914 : decode cL_law 914 = .ok (.aload_n 1, 1) := by decide +kernel
theorem dL_law_915 : decode cL_law 915 = .ok (.aload_n 0, 1) := by decide +kernel
theorem dL_law_916 : decode cL_law 916 = .ok (.iload_n 3, 1) := by decide +kernel
theorem dL_law_917 : decode cL_law 917 = .ok (.iconst 1, 1) := by decide +kernel
theorem dL_law_918 : decode cL_law 918 = .ok (.iadd, 1) := by decide +kernel
theorem dL_law_919 : decode cL_law 919 = .ok (.iaload, 1) := by decide +kernel
theorem dL_law_920 : decode cL_law 920 = .ok (.invokevirtual 119, 3) := by decide +kernel
theorem dL_law_923 : decode cL_law 923 = .ok (.aload_n 2, 1) := by decide +kernel
theorem dL_law_924 : decode cL_law 924 = .ok (.aload_n 0, 1) := by decide +kernel
theorem dL_law_925 : decode cL_law 925 = .ok (.iload_n 3, 1) := by decide +kernel
theorem dL_law_926 : decode cL_law 926 = .ok (.iconst 1, 1) := by decide +kernel
theorem dL_law_927 : decode cL_law 927 = .ok (.iadd, 1) := by decide +kernel
theorem dL_law_928 : decode cL_law 928 = .ok (.iaload, 1) := by decide +kernel
theorem dL_law_929 : decode cL_law 929 = .ok (.invokevirtual 122, 3) := by decide +kernel
theorem dL_law_932 : decode cL_law 932 = .ok (.if_icmp .eq 5, 3) := by decide +kernel
theorem dL_law_935 : decode cL_law 935 = .ok (.iconst 0, 1) := by decide +kernel
theorem dL_law_936 : decode cL_law 936 = .ok (.ireturn, 1) := by decide +kernel
theorem dL_law_937 : decode cL_law 937 = .ok (.iinc 3 6, 3) := by decide +kernel
theorem dL_law_940 : decode cL_law 940 = .ok (.goto (-922), 3) := by decide +kernel
theorem dL_law_943 : decode cL_law 943 = .ok (.iconst 1, 1) := by decide +kernel
theorem dL_law_944 : decode cL_law 944 = .ok (.ireturn, 1) := by decide +kernel
end
section
/-! THE PICTURE. The cells that the system owns stand in a row, by PLACES (0, 1, ..) instead of addresses; 'sh' says what each is (an array: kind 0 int, 1 boolean, and length; an object: its class's place in vwCl, and its fields: a fixed value, or none: a number); one function holds all numbers: μ place index. -/
abbrev pm_M : Type := Nat → Nat → Int32
abbrev pm_E : Type := (Nat × Nat) ⊕ (Nat × List (Option Value))
abbrev pm_S : Type := List pm_E
def pm_v (ad : Nat → Nat) : Value → Value
  | .ref i => .ref (ad i)
  | v => v
def pm_f (ad : Nat → Nat) (f : Nat → Int32) : Nat → List (Option Value) → List Value
  | _, [] => []
  | k, some v :: xs => pm_v ad v :: pm_f ad f (k + 1) xs
  | k, none :: xs => .int (f k) :: pm_f ad f (k + 1) xs
def pm_c (ad : Nat → Nat) (cA : Nat → ClassId) (f : Nat → Int32) : pm_E → va_E
  | .inl (t, n) => .inl (cA t, n, .inl f)
  | .inr (ci, fs) => .inr (ci, pm_f ad f 0 fs)
def pm_w (ad : Nat → Nat) (cA : Nat → ClassId) (μ : pm_M) : Nat → pm_S → va_W
  | _, [] => []
  | j, x :: xs => (ad j, pm_c ad cA (μ j) x) :: pm_w ad cA μ (j + 1) xs
def pm_row (μ : pm_M) (j : Nat) (g : Nat → Int32) : pm_M := fun a => if a = j then g else μ a
def pm_up (μ : pm_M) (j i : Nat) (v : Int32) : pm_M := pm_row μ j (upd (μ j) i v)
theorem pm_cat (ad : Nat → Nat) (v : Value) : (pm_v ad v).category = v.category := by cases v <;> rfl
theorem pm_f_some {ad : Nat → Nat} {f : Nat → Int32} : ∀ (fs : List (Option Value)) (k0 k : Nat) {v : Value}, fs[k]? = some (some v) → (pm_f ad f k0 fs)[k]? = some (pm_v ad v)
  | [], _, _, _, h => by simp at h
  | x :: xs, k0, 0, v, h => by
    rw [List.getElem?_cons_zero] at h
    cases h
    rfl
  | x :: xs, k0, k + 1, v, h => by
    rw [List.getElem?_cons_succ] at h
    have e := pm_f_some (ad := ad) (f := f) xs (k0 + 1) k h
    cases x <;> exact e
theorem pm_f_none {ad : Nat → Nat} {f : Nat → Int32} : ∀ (fs : List (Option Value)) (k0 k : Nat), fs[k]? = some none → (pm_f ad f k0 fs)[k]? = some (.int (f (k0 + k)))
  | [], _, _, h => by simp at h
  | x :: xs, k0, 0, h => by
    rw [List.getElem?_cons_zero] at h
    cases h
    rfl
  | x :: xs, k0, k + 1, h => by
    rw [List.getElem?_cons_succ] at h
    have e := pm_f_none (ad := ad) (f := f) xs (k0 + 1) k h
    rw [show k0 + (k + 1) = k0 + 1 + k by omega]
    cases x <;> exact e
theorem pm_f_len {ad : Nat → Nat} {f : Nat → Int32} : ∀ (fs : List (Option Value)) (k0 : Nat), (pm_f ad f k0 fs).length = fs.length
  | [], _ => rfl
  | some _ :: xs, k0 => by show (pm_f ad f (k0 + 1) xs).length + 1 = _; rw [pm_f_len xs]; rfl
  | none :: xs, k0 => by show (pm_f ad f (k0 + 1) xs).length + 1 = _; rw [pm_f_len xs]; rfl
theorem pm_f_congr {ad : Nat → Nat} {f g : Nat → Int32} : ∀ (fs : List (Option Value)) (k0 : Nat), (∀ a, k0 ≤ a → f a = g a) → pm_f ad f k0 fs = pm_f ad g k0 fs
  | [], _, _ => rfl
  | some v :: xs, k0, h => by
    show _ :: pm_f ad f (k0 + 1) xs = _ :: pm_f ad g (k0 + 1) xs
    rw [pm_f_congr xs (k0 + 1) (fun a ha => h a (by omega))]
  | none :: xs, k0, h => by
    show .int (f k0) :: pm_f ad f (k0 + 1) xs = .int (g k0) :: pm_f ad g (k0 + 1) xs
    rw [pm_f_congr xs (k0 + 1) (fun a ha => h a (by omega)), h k0 (Nat.le_refl _)]
theorem pm_f_int {ad : Nat → Nat} {v : Int32} : ∀ (fs : List (Option Value)) (f : Nat → Int32) (k0 k : Nat), fs[k]? = some none → (pm_f ad f k0 fs).set k (.int v) = pm_f ad (upd f (k0 + k) v) k0 fs
  | [], _, _, _, h => by simp at h
  | x :: xs, f, k0, 0, h => by
    rw [List.getElem?_cons_zero] at h
    cases h
    show .int v :: pm_f ad f (k0 + 1) xs = .int (upd f (k0 + 0) v k0) :: pm_f ad (upd f (k0 + 0) v) (k0 + 1) xs
    rw [Nat.add_zero, pm_f_congr (f := f) (g := upd f k0 v) xs (k0 + 1) (fun a ha => by unfold upd; rw [if_neg (by omega)])]
    simp [upd]
  | x :: xs, f, k0, k + 1, h => by
    rw [List.getElem?_cons_succ] at h
    have e := pm_f_int (ad := ad) (v := v) xs f (k0 + 1) k h
    rw [show k0 + 1 + k = k0 + (k + 1) by omega] at e
    cases x with
    | none =>
      show .int (f k0) :: (pm_f ad f (k0 + 1) xs).set k (.int v) = .int (upd f (k0 + (k + 1)) v k0) :: pm_f ad (upd f (k0 + (k + 1)) v) (k0 + 1) xs
      rw [e]
      congr 2
      unfold upd
      rw [if_neg (by omega)]
    | some z =>
      show pm_v ad z :: (pm_f ad f (k0 + 1) xs).set k (.int v) = pm_v ad z :: pm_f ad (upd f (k0 + (k + 1)) v) (k0 + 1) xs
      rw [e]
theorem pm_f_ref {ad : Nat → Nat} {f : Nat → Int32} {v : Value} : ∀ (fs : List (Option Value)) (k0 k : Nat), (pm_f ad f k0 fs).set k (pm_v ad v) = pm_f ad f k0 (fs.set k (some v))
  | [], _, _ => rfl
  | none :: xs, k0, 0 => rfl
  | some _ :: xs, k0, 0 => rfl
  | none :: xs, k0, k + 1 => by
    show .int (f k0) :: (pm_f ad f (k0 + 1) xs).set k (pm_v ad v) = .int (f k0) :: pm_f ad f (k0 + 1) (xs.set k (some v))
    rw [pm_f_ref xs (k0 + 1) k]
  | some z :: xs, k0, k + 1 => by
    show pm_v ad z :: (pm_f ad f (k0 + 1) xs).set k (pm_v ad v) = pm_v ad z :: pm_f ad f (k0 + 1) (xs.set k (some v))
    rw [pm_f_ref xs (k0 + 1) k]
theorem pm_w_get {ad : Nat → Nat} {cA : Nat → ClassId} {μ : pm_M} : ∀ (sh : pm_S) (j0 j : Nat) {x : pm_E}, sh[j]? = some x → (pm_w ad cA μ j0 sh)[j]? = some (ad (j0 + j), pm_c ad cA (μ (j0 + j)) x)
  | [], _, _, _, h => by simp at h
  | y :: ys, j0, 0, x, h => by
    rw [List.getElem?_cons_zero] at h
    cases h
    rfl
  | y :: ys, j0, j + 1, x, h => by
    rw [List.getElem?_cons_succ] at h
    rw [show j0 + (j + 1) = j0 + 1 + j by omega]
    exact pm_w_get ys (j0 + 1) j h
theorem pm_w_get0 {ad : Nat → Nat} {cA : Nat → ClassId} {μ : pm_M} {sh : pm_S} {j : Nat} {x : pm_E} (h : sh[j]? = some x) : (pm_w ad cA μ 0 sh)[j]? = some (ad j, pm_c ad cA (μ j) x) := by
  have e := pm_w_get (ad := ad) (cA := cA) (μ := μ) sh 0 j h
  rw [Nat.zero_add] at e
  exact e
theorem pm_w_congr {ad : Nat → Nat} {cA : Nat → ClassId} {μ ν : pm_M} : ∀ (sh : pm_S) (j0 : Nat), (∀ a, j0 ≤ a → μ a = ν a) → pm_w ad cA μ j0 sh = pm_w ad cA ν j0 sh
  | [], _, _ => rfl
  | y :: ys, j0, h => by
    show (ad j0, pm_c ad cA (μ j0) y) :: pm_w ad cA μ (j0 + 1) ys = (ad j0, pm_c ad cA (ν j0) y) :: pm_w ad cA ν (j0 + 1) ys
    rw [h j0 (Nat.le_refl _), pm_w_congr ys (j0 + 1) (fun a ha => h a (by omega))]
theorem pm_w_set {ad : Nat → Nat} {cA : Nat → ClassId} {g : Nat → Int32} {x : pm_E} : ∀ (sh : pm_S) (μ : pm_M) (j0 j : Nat), (pm_w ad cA μ j0 sh).set j (ad (j0 + j), pm_c ad cA g x) = pm_w ad cA (pm_row μ (j0 + j) g) j0 (sh.set j x)
  | [], _, _, _ => rfl
  | y :: ys, μ, j0, 0 => by
    show (ad (j0 + 0), pm_c ad cA g x) :: pm_w ad cA μ (j0 + 1) ys = (ad j0, pm_c ad cA (pm_row μ (j0 + 0) g j0) x) :: pm_w ad cA (pm_row μ (j0 + 0) g) (j0 + 1) ys
    rw [Nat.add_zero, pm_w_congr (μ := μ) (ν := pm_row μ j0 g) ys (j0 + 1) (fun a ha => by unfold pm_row; rw [if_neg (by omega)])]
    simp [pm_row]
  | y :: ys, μ, j0, j + 1 => by
    have e := pm_w_set (ad := ad) (cA := cA) (g := g) (x := x) ys μ (j0 + 1) j
    rw [show j0 + 1 + j = j0 + (j + 1) by omega] at e
    show (ad j0, pm_c ad cA (μ j0) y) :: (pm_w ad cA μ (j0 + 1) ys).set j (ad (j0 + (j + 1)), pm_c ad cA g x) = (ad j0, pm_c ad cA (pm_row μ (j0 + (j + 1)) g j0) y) :: pm_w ad cA (pm_row μ (j0 + (j + 1)) g) (j0 + 1) (ys.set j x)
    rw [e]
    congr 3
    unfold pm_row
    rw [if_neg (by omega)]
theorem pm_w_set0 {ad : Nat → Nat} {cA : Nat → ClassId} {g : Nat → Int32} {x : pm_E} {sh : pm_S} {μ : pm_M} {j : Nat} (h : sh[j]? = some x) : (pm_w ad cA μ 0 sh).set j (ad j, pm_c ad cA g x) = pm_w ad cA (pm_row μ j g) 0 sh := by
  have e := pm_w_set (ad := ad) (cA := cA) (g := g) (x := x) sh μ 0 j
  rw [Nat.zero_add] at e
  rw [e]
  congr 1
  apply List.ext_getElem?
  intro i
  by_cases hi : i = j
  · subst hi
    rw [List.getElem?_set_self (List.getElem?_eq_some_iff.mp h).1, h]
  · rw [List.getElem?_set_ne (fun z => hi z.symm)]
theorem pm_w_app {ad : Nat → Nat} {cA : Nat → ClassId} {μ : pm_M} {x : pm_E} : ∀ (sh : pm_S) (j0 : Nat), pm_w ad cA μ j0 (sh ++ [x]) = pm_w ad cA μ j0 sh ++ [(ad (j0 + sh.length), pm_c ad cA (μ (j0 + sh.length)) x)]
  | [], j0 => rfl
  | y :: ys, j0 => by
    show (ad j0, pm_c ad cA (μ j0) y) :: pm_w ad cA μ (j0 + 1) (ys ++ [x]) = (ad j0, pm_c ad cA (μ j0) y) :: (pm_w ad cA μ (j0 + 1) ys ++ [(ad (j0 + (ys.length + 1)), pm_c ad cA (μ (j0 + (ys.length + 1))) x)])
    rw [pm_w_app ys (j0 + 1), show j0 + 1 + ys.length = j0 + (ys.length + 1) by omega]
/-- the world hangs on finitely many addresses -/
theorem pm_f_ad : ∀ (fs : List (Option Value)), ∃ n : Nat, ∀ (ad ad' : Nat → Nat) (f : Nat → Int32) (k0 : Nat), (∀ i, i < n → ad' i = ad i) → pm_f ad' f k0 fs = pm_f ad f k0 fs
  | [] => ⟨0, fun _ _ _ _ _ => rfl⟩
  | none :: xs => by
    obtain ⟨n, hn⟩ := pm_f_ad xs
    exact ⟨n, fun ad ad' f k0 h => by show .int (f k0) :: pm_f ad' f (k0 + 1) xs = .int (f k0) :: pm_f ad f (k0 + 1) xs; rw [hn ad ad' f (k0 + 1) h]⟩
  | some v :: xs => by
    obtain ⟨n, hn⟩ := pm_f_ad xs
    have hv : ∃ m : Nat, ∀ ad ad' : Nat → Nat, (∀ i, i < m → ad' i = ad i) → pm_v ad' v = pm_v ad v := by
      cases v with
      | ref i => exact ⟨i + 1, fun ad ad' h => by show Value.ref (ad' i) = Value.ref (ad i); rw [h i (by omega)]⟩
      | _ => exact ⟨0, fun _ _ _ => rfl⟩
    obtain ⟨m, hm⟩ := hv
    exact ⟨n + m, fun ad ad' f k0 h => by show pm_v ad' v :: pm_f ad' f (k0 + 1) xs = pm_v ad v :: pm_f ad f (k0 + 1) xs; rw [hn ad ad' f (k0 + 1) (fun i hi => h i (by omega)), hm ad ad' (fun i hi => h i (by omega))]⟩
theorem pm_w_ad : ∀ (sh : pm_S) (j0 : Nat), ∃ n : Nat, ∀ (ad ad' : Nat → Nat) (cA : Nat → ClassId) (μ : pm_M), (∀ i, i < n → ad' i = ad i) → pm_w ad' cA μ j0 sh = pm_w ad cA μ j0 sh
  | [], _ => ⟨0, fun _ _ _ _ _ => rfl⟩
  | y :: ys, j0 => by
    obtain ⟨n, hn⟩ := pm_w_ad ys (j0 + 1)
    have hy : ∃ m : Nat, ∀ (ad ad' : Nat → Nat) (cA : Nat → ClassId) (f : Nat → Int32), (∀ i, i < m → ad' i = ad i) → pm_c ad' cA f y = pm_c ad cA f y := by
      match y with
      | .inl (t, n) => exact ⟨0, fun _ _ _ _ _ => rfl⟩
      | .inr (ci, fs) =>
        obtain ⟨m, hm⟩ := pm_f_ad fs
        exact ⟨m, fun ad ad' cA f h => by show (.inr (ci, pm_f ad' f 0 fs) : va_E) = .inr (ci, pm_f ad f 0 fs); rw [hm ad ad' f 0 h]⟩
    obtain ⟨m, hm⟩ := hy
    refine ⟨n + m + j0 + 1, fun ad ad' cA μ h => ?_⟩
    show (ad' j0, pm_c ad' cA (μ j0) y) :: pm_w ad' cA μ (j0 + 1) ys = (ad j0, pm_c ad cA (μ j0) y) :: pm_w ad cA μ (j0 + 1) ys
    rw [hn ad ad' cA μ (fun i hi => h i (by omega)), hm ad ad' cA (μ j0) (fun i hi => h i (by omega)), h j0 (by omega)]
/-- locals: by their slots -/
def pm_l (ad : Nat → Nat) : Nat → List (Option Value) → List (Nat × Value)
  | _, [] => []
  | i, some v :: xs => (i, pm_v ad v) :: pm_l ad (i + 1) xs
  | i, none :: xs => pm_l ad (i + 1) xs
theorem pm_l_mem {ad : Nat → Nat} : ∀ (ls : List (Option Value)) (i0 : Nat) (q : Nat × Value), q ∈ pm_l ad i0 ls ↔ ∃ (i : Nat) (v : Value), ls[i]? = some (some v) ∧ q = (i0 + i, pm_v ad v)
  | [], i0, q => by
    constructor
    · intro h; cases h
    · rintro ⟨i, v, h, -⟩; simp at h
  | some w :: xs, i0, q => by
    show q ∈ (i0, pm_v ad w) :: pm_l ad (i0 + 1) xs ↔ _
    rw [List.mem_cons, pm_l_mem xs (i0 + 1) q]
    constructor
    · rintro (h | ⟨i, v, h1, h2⟩)
      · exact ⟨0, w, rfl, h⟩
      · exact ⟨i + 1, v, h1, by rw [h2]; congr 1; omega⟩
    · rintro ⟨i, v, h1, h2⟩
      cases i with
      | zero =>
        rw [List.getElem?_cons_zero] at h1
        cases h1
        exact Or.inl h2
      | succ i =>
        rw [List.getElem?_cons_succ] at h1
        exact Or.inr ⟨i, v, h1, by rw [h2]; congr 1; omega⟩
  | none :: xs, i0, q => by
    show q ∈ pm_l ad (i0 + 1) xs ↔ _
    rw [pm_l_mem xs (i0 + 1) q]
    constructor
    · rintro ⟨i, v, h1, h2⟩
      exact ⟨i + 1, v, h1, by rw [h2]; congr 1; omega⟩
    · rintro ⟨i, v, h1, h2⟩
      cases i with
      | zero => rw [List.getElem?_cons_zero] at h1; cases h1
      | succ i =>
        rw [List.getElem?_cons_succ] at h1
        exact ⟨i, v, h1, by rw [h2]; congr 1; omega⟩
theorem pm_l_at {ad : Nat → Nat} {la : Array Slot} {nL i : Nat} {ls : List (Option Value)} {v : Value} (h : lv_has la nL (pm_l ad 0 ls)) (hi : ls[i]? = some (some v)) : la[i]? = some (.val (pm_v ad v)) :=
  h.2.2 (i, pm_v ad v) ((pm_l_mem ls 0 _).mpr ⟨i, v, hi, by rw [Nat.zero_add]⟩)
theorem pm_l_weak {ad : Nat → Nat} {la : Array Slot} {nL : Nat} {ls ls' : List (Option Value)} (h : lv_has la nL (pm_l ad 0 ls)) (hw : ∀ (i : Nat) (v : Value), ls'[i]? = some (some v) → ls[i]? = some (some v)) : lv_has la nL (pm_l ad 0 ls') := by
  refine ⟨h.1, h.2.1, fun q hq => ?_⟩
  obtain ⟨i, v, h1, h2⟩ := (pm_l_mem ls' 0 q).mp hq
  rw [h2, Nat.zero_add]
  exact pm_l_at h (hw i v h1)
/-- storing into a local of one word: all that is no long just below stays -/
def pm_st1 (ls : List (Option Value)) (i : Nat) (v : Value) : List (Option Value) :=
  (match i with
    | 0 => ls
    | k + 1 => match ls[k]? with
      | some (some w) => if w.category = 2 then ls.set k none else ls
      | _ => ls).set i (some v)
theorem pm_st1_mem {ad : Nat → Nat} {ls : List (Option Value)} {i : Nat} {v : Value} {q : Nat × Value} (h : q ∈ pm_l ad 0 (pm_st1 ls i v)) : q ∈ (i, pm_v ad v) :: (pm_l ad 0 ls).filter (fun q => !(q.1 == i) && !(q.1 + 1 == i && q.2.category == 2)) := by
  obtain ⟨j, w, h1, h2⟩ := (pm_l_mem _ 0 q).mp h
  rw [Nat.zero_add] at h2
  subst h2
  have key : j ≠ i → (ls[j]? = some (some w) ∧ ¬ (j + 1 = i ∧ w.category = 2)) := by
    intro hj
    unfold pm_st1 at h1
    rw [List.getElem?_set_ne (fun z => hj z.symm)] at h1
    cases i with
    | zero => exact ⟨h1, fun z => by omega⟩
    | succ k =>
      dsimp only at h1
      split at h1
      · rename_i u hu
        by_cases hc : u.category = 2
        · rw [if_pos hc] at h1
          by_cases hjk : j = k
          · subst hjk
            rw [List.getElem?_set_self (List.getElem?_eq_some_iff.mp hu).1] at h1
            cases h1
          · rw [List.getElem?_set_ne (fun z => hjk z.symm)] at h1
            exact ⟨h1, fun z => hjk (by omega)⟩
        · rw [if_neg hc] at h1
          refine ⟨h1, fun z => ?_⟩
          have : j = k := by omega
          subst this
          rw [h1] at hu
          cases hu
          exact hc z.2
      · rename_i hu
        refine ⟨h1, fun z => ?_⟩
        have : j = k := by omega
        subst this
        exact hu w h1
  by_cases hj : j = i
  · subst hj
    unfold pm_st1 at h1
    have hl := (List.getElem?_eq_some_iff.mp h1).1
    rw [List.getElem?_set_self (by rw [List.length_set] at hl; exact hl)] at h1
    cases h1
    exact List.mem_cons_self
  · obtain ⟨a, b⟩ := key hj
    refine List.mem_cons_of_mem _ (List.mem_filter.mpr ⟨(pm_l_mem ls 0 _).mpr ⟨j, w, a, by rw [Nat.zero_add]⟩, ?_⟩)
    simp only [Bool.and_eq_true, Bool.not_eq_true', beq_eq_false_iff_ne, Bool.and_eq_false_iff]
    refine ⟨hj, ?_⟩
    rw [pm_cat]
    by_cases hz : j + 1 = i
    · exact Or.inr (fun h => b ⟨hz, h⟩)
    · exact Or.inl hz
def pm_st2 (ls : List (Option Value)) (i : Nat) (v : Value) : List (Option Value) := (pm_st1 ls i v).set (i + 1) none
theorem pm_st2_mem {ad : Nat → Nat} {ls : List (Option Value)} {i : Nat} {v : Value} {q : Nat × Value} (h : q ∈ pm_l ad 0 (pm_st2 ls i v)) : q ∈ (i, pm_v ad v) :: (pm_l ad 0 ls).filter (fun q => !(q.1 == i) && (!(q.1 == i + 1) && !(q.1 + 1 == i && q.2.category == 2))) := by
  obtain ⟨j, w, h1, h2⟩ := (pm_l_mem _ 0 q).mp h
  unfold pm_st2 at h1
  have hj : j ≠ i + 1 := by
    intro hj
    subst hj
    have hl := (List.getElem?_eq_some_iff.mp h1).1
    rw [List.getElem?_set_self (by rw [List.length_set] at hl; exact hl)] at h1
    cases h1
  rw [List.getElem?_set_ne (fun z => hj z.symm)] at h1
  have h3 := pm_st1_mem ((pm_l_mem (ad := ad) (pm_st1 ls i v) 0 q).mpr ⟨j, w, h1, h2⟩)
  rcases List.mem_cons.mp h3 with h4 | h4
  · exact List.mem_cons.mpr (Or.inl h4)
  · refine List.mem_cons_of_mem _ ?_
    obtain ⟨h5, h6⟩ := List.mem_filter.mp h4
    refine List.mem_filter.mpr ⟨h5, ?_⟩
    rw [Nat.zero_add] at h2
    subst h2
    simp only [Bool.and_eq_true, Bool.not_eq_true', beq_eq_false_iff_ne, Bool.and_eq_false_iff] at h6 ⊢
    exact ⟨h6.1, hj, h6.2⟩
end
section
/-! THE JUDGEMENT. pm_V .. pc ls st μ o: the machine at pc, with locals ls, stack st and numbers μ, comes to the method's end with what 'o' says, if 'o' says something ('fin': what is returned, and the numbers then). -/
def pm_okw : Cond → Bool
  | .fieldLinkNest .. => true
  | .methodLinkNest .. => true
  | w => goodWord w
/-- the words of the tables that every state that comes keeps -/
def pm_T : List Cond := lw_tbl.filter pm_okw
theorem pm_in {w : Cond} (h : w ∈ lw_tbl) (hk : pm_okw w = true) : w ∈ pm_T := List.mem_filter.mpr ⟨h, hk⟩
def pm_ty (cA : Nat → ClassId) : List (ClassId × FieldType) := [(cA 0, .int), (cA 1, .boolean)]
def pm_At (cc : ByteArray) (own : String) (nL : Nat) (ret : Option FieldType) (D : va_G) (cA : Nat → ClassId) (p : Program) (s : State) (m : MethodId) (args : Array Value) (meth : Method) (c : Code) : Prop :=
  p.tables.exec = Jvm.exec ∧ c.code = cc ∧ c.maxLocals = nL ∧ s.vm.findClass own = some m.cls ∧ meth.sig.returnType = ret ∧ meth.locks = false ∧ (∀ w ∈ pm_T, w.before args s = true) ∧ va_K D vwCl (pm_ty cA) s
def pm_Q (D : va_G) (cA : Nat → ClassId) (ad : Nat → Nat) (n0 : Nat) (sh : pm_S) (rv : Option Value) (μ : pm_M) (A : Nat → Prop) : Array Value → State → Outcome → State → Prop := fun _ st oc t =>
  (oc = .returned rv ∧ ∃ ad' : Nat → Nat, (∀ i, i < n0 → ad' i = ad i) ∧ va_P D vwCl (pm_w ad' cA μ 0 sh) t.heap ∧ va_D A (pm_w ad' cA μ 0 sh)) ∧ va_F A st t
def pm_V {τ : Type} (l : Launch) (cc : ByteArray) (own : String) (nL : Nat) (ret : Option FieldType) (R : Room) (g : Bool) (shE : pm_S) (mc ms : Nat) (fin : τ → Option Value × pm_M) (sh : pm_S) (kc ks : Nat) (pc : Nat) (ls : List (Option Value)) (st : List Value) (μ : pm_M) (o : Option τ) : Prop :=
  ∀ x, o = some x → ∀ (p : Program) (e : Env) (s : State) (m : MethodId) (args : Array Value) (below : List Frame) (meth : Method) (c : Code) (D : va_G) (cA : Nat → ClassId) (ad ad0 : Nat → Nat) (n0 : Nat) (A : Nat → Prop) (H : Heap) (locs : List Loc) (la : Array Slot),
    pm_At cc own nL ret D cA p s m args meth c → (∀ i, i < n0 → ad i = ad0 i) → (g = true → n0 ≤ sh.length ∧ meth.name = "<init>") → (∀ q, s.heap.size ≤ q → A q) → va_P D vwCl (pm_w ad cA μ 0 sh) H → va_D A (pm_w ad cA μ 0 sh) → va_S A s.heap H locs → lv_has la nL (pm_l ad 0 ls) →
    W p l e R s m args below meth c H locs kc ks (MQ below (pm_Q D cA ad0 n0 shE (fin x).1 (fin x).2 A) args s mc ms A) (F0 m pc la (st.map (pm_v ad)))
def pm_let {α τ : Type} (x : α) (k : α → Option τ) : Option τ := k x
def pm_ck {τ : Type} (i : Int32) (n : Nat) (o : Option τ) : Option τ := if i < 0 ∨ n ≤ i.toNatClampNeg then none else o
def pm_rem (x y : Int32) : Int32 := x - x / y * y
def pm_lrem (x y : Int64) : Int64 := x - x / y * y
def pm_it {σ ε τ : Type} (body : σ → (σ → Option τ) → (ε → Option τ) → Option τ) : Nat → σ → (ε → Option τ) → Option τ
  | 0, _, _ => none
  | n + 1, v, kE => body v (fun v' => pm_it body n v' kE) kE
def pm_jn {α τ : Type} (J : α → Option τ) (T : (α → Option τ) → Option τ) : Option τ := T J
section PMR
variable {τ : Type} {l : Launch} {cc : ByteArray} {own : String} {nL : Nat} {ret : Option FieldType} {R : Room} {g : Bool} {shE : pm_S} {mc ms : Nat} {fin : τ → Option Value × pm_M} {sh : pm_S} {kc ks pc : Nat} {ls : List (Option Value)} {st : List Value} {μ : pm_M} {o o1 o2 : Option τ}
theorem pv_iconst {n : Int} {v : Int32} (hd : decode cc pc = .ok (.iconst n, 1)) (hv : Int32.ofInt n = v) (k : pm_V l cc own nL ret R g shE mc ms fin sh kc ks (pc + 1) ls (.int v :: st) μ o) : pm_V l cc own nL ret R g shE mc ms fin sh kc ks pc ls (st) μ o := by
  intro z hz p e s m args below meth c D cA ad ad0 n0 A H locs la h1 h2 h3 h4 h5 h6 h7 h8
  exact lv_iconst h1.1 h1.2.1 hd hv (k z hz p e s m args below meth c D cA ad ad0 n0 A H locs la h1 h2 h3 h4 h5 h6 h7 h8)
theorem pv_bipush {n : Int} {v : Int32} (hd : decode cc pc = .ok (.bipush n, 2)) (hv : (Int8.ofInt n).toInt32 = v) (k : pm_V l cc own nL ret R g shE mc ms fin sh kc ks (pc + 2) ls (.int v :: st) μ o) : pm_V l cc own nL ret R g shE mc ms fin sh kc ks pc ls (st) μ o := by
  intro z hz p e s m args below meth c D cA ad ad0 n0 A H locs la h1 h2 h3 h4 h5 h6 h7 h8
  exact lv_bipush h1.1 h1.2.1 hd hv (k z hz p e s m args below meth c D cA ad ad0 n0 A H locs la h1 h2 h3 h4 h5 h6 h7 h8)
theorem pv_sipush {n : Int} {v : Int32} (hd : decode cc pc = .ok (.sipush n, 3)) (hv : (Int16.ofInt n).toInt32 = v) (k : pm_V l cc own nL ret R g shE mc ms fin sh kc ks (pc + 3) ls (.int v :: st) μ o) : pm_V l cc own nL ret R g shE mc ms fin sh kc ks pc ls (st) μ o := by
  intro z hz p e s m args below meth c D cA ad ad0 n0 A H locs la h1 h2 h3 h4 h5 h6 h7 h8
  exact lv_sipush h1.1 h1.2.1 hd hv (k z hz p e s m args below meth c D cA ad ad0 n0 A H locs la h1 h2 h3 h4 h5 h6 h7 h8)
theorem pv_lconst {n : Fin 2} {v : Int64} (hd : decode cc pc = .ok (.lconst n, 1)) (hv : Int64.ofNat (n : Nat) = v) (k : pm_V l cc own nL ret R g shE mc ms fin sh kc ks (pc + 1) ls (.long v :: st) μ o) : pm_V l cc own nL ret R g shE mc ms fin sh kc ks pc ls (st) μ o := by
  intro z hz p e s m args below meth c D cA ad ad0 n0 A H locs la h1 h2 h3 h4 h5 h6 h7 h8
  exact lv_lconst h1.1 h1.2.1 hd hv (k z hz p e s m args below meth c D cA ad ad0 n0 A H locs la h1 h2 h3 h4 h5 h6 h7 h8)
theorem pv_ldc {index : Nat} {v : Int32} (hd : decode cc pc = .ok (.ldc index, 2)) (hc : Cond.constant own index v ∈ pm_T) (k : pm_V l cc own nL ret R g shE mc ms fin sh kc ks (pc + 2) ls (.int v :: st) μ o) : pm_V l cc own nL ret R g shE mc ms fin sh kc ks pc ls (st) μ o := by
  intro z hz p e s m args below meth c D cA ad ad0 n0 A H locs la h1 h2 h3 h4 h5 h6 h7 h8
  exact lv_ldc h1.1 h1.2.1 h1.2.2.2.1 (h1.2.2.2.2.2.2.1 _ hc) hd (k z hz p e s m args below meth c D cA ad ad0 n0 A H locs la h1 h2 h3 h4 h5 h6 h7 h8)
theorem pv_ldcw {index : Nat} {v : Int32} (hd : decode cc pc = .ok (.ldc_w index, 3)) (hc : Cond.constant own index v ∈ pm_T) (k : pm_V l cc own nL ret R g shE mc ms fin sh kc ks (pc + 3) ls (.int v :: st) μ o) : pm_V l cc own nL ret R g shE mc ms fin sh kc ks pc ls (st) μ o := by
  intro z hz p e s m args below meth c D cA ad ad0 n0 A H locs la h1 h2 h3 h4 h5 h6 h7 h8
  exact lv_ldcw h1.1 h1.2.1 h1.2.2.2.1 (h1.2.2.2.2.2.2.1 _ hc) hd (k z hz p e s m args below meth c D cA ad ad0 n0 A H locs la h1 h2 h3 h4 h5 h6 h7 h8)
theorem pv_ldc2 {index : Nat} {v : Int64} (hd : decode cc pc = .ok (.ldc2_w index, 3)) (hc : Cond.constantLong own index v ∈ pm_T) (k : pm_V l cc own nL ret R g shE mc ms fin sh kc ks (pc + 3) ls (.long v :: st) μ o) : pm_V l cc own nL ret R g shE mc ms fin sh kc ks pc ls (st) μ o := by
  intro z hz p e s m args below meth c D cA ad ad0 n0 A H locs la h1 h2 h3 h4 h5 h6 h7 h8
  exact lv_ldc2 h1.1 h1.2.1 h1.2.2.2.1 (h1.2.2.2.2.2.2.1 _ hc) hd (k z hz p e s m args below meth c D cA ad ad0 n0 A H locs la h1 h2 h3 h4 h5 h6 h7 h8)
theorem pv_iload_n {i : Fin 4} {x : Int32} (hd : decode cc pc = .ok (.iload_n i, 1)) (hl : ls[(i : Nat)]? = some (some (.int x))) (k : pm_V l cc own nL ret R g shE mc ms fin sh kc ks (pc + 1) ls (.int x :: st) μ o) : pm_V l cc own nL ret R g shE mc ms fin sh kc ks pc ls (st) μ o := by
  intro z hz p e s m args below meth c D cA ad ad0 n0 A H locs la h1 h2 h3 h4 h5 h6 h7 h8
  exact lv_iload_n h1.1 h1.2.1 hd rfl (pm_l_at h8 hl) (k z hz p e s m args below meth c D cA ad ad0 n0 A H locs la h1 h2 h3 h4 h5 h6 h7 h8)
theorem pv_iload {i : Nat} {x : Int32} (hd : decode cc pc = .ok (.iload i, 2)) (hl : ls[i]? = some (some (.int x))) (k : pm_V l cc own nL ret R g shE mc ms fin sh kc ks (pc + 2) ls (.int x :: st) μ o) : pm_V l cc own nL ret R g shE mc ms fin sh kc ks pc ls (st) μ o := by
  intro z hz p e s m args below meth c D cA ad ad0 n0 A H locs la h1 h2 h3 h4 h5 h6 h7 h8
  exact lv_iload h1.1 h1.2.1 hd (pm_l_at h8 hl) (k z hz p e s m args below meth c D cA ad ad0 n0 A H locs la h1 h2 h3 h4 h5 h6 h7 h8)
theorem pv_lload_n {i : Fin 4} {x : Int64} (hd : decode cc pc = .ok (.lload_n i, 1)) (hl : ls[(i : Nat)]? = some (some (.long x))) (k : pm_V l cc own nL ret R g shE mc ms fin sh kc ks (pc + 1) ls (.long x :: st) μ o) : pm_V l cc own nL ret R g shE mc ms fin sh kc ks pc ls (st) μ o := by
  intro z hz p e s m args below meth c D cA ad ad0 n0 A H locs la h1 h2 h3 h4 h5 h6 h7 h8
  exact lv_lload_n h1.1 h1.2.1 hd rfl (pm_l_at h8 hl) (k z hz p e s m args below meth c D cA ad ad0 n0 A H locs la h1 h2 h3 h4 h5 h6 h7 h8)
theorem pv_lload {i : Nat} {x : Int64} (hd : decode cc pc = .ok (.lload i, 2)) (hl : ls[i]? = some (some (.long x))) (k : pm_V l cc own nL ret R g shE mc ms fin sh kc ks (pc + 2) ls (.long x :: st) μ o) : pm_V l cc own nL ret R g shE mc ms fin sh kc ks pc ls (st) μ o := by
  intro z hz p e s m args below meth c D cA ad ad0 n0 A H locs la h1 h2 h3 h4 h5 h6 h7 h8
  exact lv_lload h1.1 h1.2.1 hd (pm_l_at h8 hl) (k z hz p e s m args below meth c D cA ad ad0 n0 A H locs la h1 h2 h3 h4 h5 h6 h7 h8)
theorem pv_aload_n {i : Fin 4} {x : Nat} (hd : decode cc pc = .ok (.aload_n i, 1)) (hl : ls[(i : Nat)]? = some (some (.ref x))) (k : pm_V l cc own nL ret R g shE mc ms fin sh kc ks (pc + 1) ls (.ref x :: st) μ o) : pm_V l cc own nL ret R g shE mc ms fin sh kc ks pc ls (st) μ o := by
  intro z hz p e s m args below meth c D cA ad ad0 n0 A H locs la h1 h2 h3 h4 h5 h6 h7 h8
  exact lv_aload_n h1.1 h1.2.1 hd rfl (pm_l_at h8 hl) (k z hz p e s m args below meth c D cA ad ad0 n0 A H locs la h1 h2 h3 h4 h5 h6 h7 h8)
theorem pv_aload {i : Nat} {x : Nat} (hd : decode cc pc = .ok (.aload i, 2)) (hl : ls[i]? = some (some (.ref x))) (k : pm_V l cc own nL ret R g shE mc ms fin sh kc ks (pc + 2) ls (.ref x :: st) μ o) : pm_V l cc own nL ret R g shE mc ms fin sh kc ks pc ls (st) μ o := by
  intro z hz p e s m args below meth c D cA ad ad0 n0 A H locs la h1 h2 h3 h4 h5 h6 h7 h8
  exact lv_aload h1.1 h1.2.1 hd (pm_l_at h8 hl) (k z hz p e s m args below meth c D cA ad ad0 n0 A H locs la h1 h2 h3 h4 h5 h6 h7 h8)
theorem pv_istore_n {i : Fin 4} {x : Int32} {ls' : List (Option Value)} (hd : decode cc pc = .ok (.istore_n i, 1)) (hn : (i : Nat) < nL) (hl : pm_st1 ls (i : Nat) (.int x) = ls') (k : pm_V l cc own nL ret R g shE mc ms fin sh kc ks (pc + 1) ls' st μ o) : pm_V l cc own nL ret R g shE mc ms fin sh kc ks pc ls (.int x :: st) μ o := by
  intro z hz p e s m args below meth c D cA ad ad0 n0 A H locs la h1 h2 h3 h4 h5 h6 h7 h8
  subst hl
  refine lv_istore_n (lv := pm_l ad 0 ls) (lv' := _) h1.1 h1.2.1 hd rfl h8 hn rfl (fun la' hla => k z hz p e s m args below meth c D cA ad ad0 n0 A H locs la' h1 h2 h3 h4 h5 h6 h7 ⟨hla.1, hla.2.1, fun q hq => hla.2.2 q ?_⟩)
  exact pm_st1_mem hq
theorem pv_istore {i : Nat} {x : Int32} {ls' : List (Option Value)} (hd : decode cc pc = .ok (.istore i, 2)) (hn : i < nL) (hl : pm_st1 ls i (.int x) = ls') (k : pm_V l cc own nL ret R g shE mc ms fin sh kc ks (pc + 2) ls' st μ o) : pm_V l cc own nL ret R g shE mc ms fin sh kc ks pc ls (.int x :: st) μ o := by
  intro z hz p e s m args below meth c D cA ad ad0 n0 A H locs la h1 h2 h3 h4 h5 h6 h7 h8
  subst hl
  refine lv_istore (lv := pm_l ad 0 ls) (lv' := _) h1.1 h1.2.1 hd h8 hn rfl (fun la' hla => k z hz p e s m args below meth c D cA ad ad0 n0 A H locs la' h1 h2 h3 h4 h5 h6 h7 ⟨hla.1, hla.2.1, fun q hq => hla.2.2 q ?_⟩)
  exact pm_st1_mem hq
theorem pv_lstore_n {i : Fin 4} {x : Int64} {ls' : List (Option Value)} (hd : decode cc pc = .ok (.lstore_n i, 1)) (hn : (i : Nat) + 1 < nL) (hl : pm_st2 ls (i : Nat) (.long x) = ls') (k : pm_V l cc own nL ret R g shE mc ms fin sh kc ks (pc + 1) ls' st μ o) : pm_V l cc own nL ret R g shE mc ms fin sh kc ks pc ls (.long x :: st) μ o := by
  intro z hz p e s m args below meth c D cA ad ad0 n0 A H locs la h1 h2 h3 h4 h5 h6 h7 h8
  subst hl
  refine lv_lstore_n (lv := pm_l ad 0 ls) (lv' := _) h1.1 h1.2.1 hd rfl h8 hn rfl (fun la' hla => k z hz p e s m args below meth c D cA ad ad0 n0 A H locs la' h1 h2 h3 h4 h5 h6 h7 ⟨hla.1, hla.2.1, fun q hq => hla.2.2 q ?_⟩)
  exact pm_st2_mem hq
theorem pv_lstore {i : Nat} {x : Int64} {ls' : List (Option Value)} (hd : decode cc pc = .ok (.lstore i, 2)) (hn : i + 1 < nL) (hl : pm_st2 ls i (.long x) = ls') (k : pm_V l cc own nL ret R g shE mc ms fin sh kc ks (pc + 2) ls' st μ o) : pm_V l cc own nL ret R g shE mc ms fin sh kc ks pc ls (.long x :: st) μ o := by
  intro z hz p e s m args below meth c D cA ad ad0 n0 A H locs la h1 h2 h3 h4 h5 h6 h7 h8
  subst hl
  refine lv_lstore (lv := pm_l ad 0 ls) (lv' := _) h1.1 h1.2.1 hd h8 hn rfl (fun la' hla => k z hz p e s m args below meth c D cA ad ad0 n0 A H locs la' h1 h2 h3 h4 h5 h6 h7 ⟨hla.1, hla.2.1, fun q hq => hla.2.2 q ?_⟩)
  exact pm_st2_mem hq
theorem pv_astore_n {i : Fin 4} {x : Nat} {ls' : List (Option Value)} (hd : decode cc pc = .ok (.astore_n i, 1)) (hn : (i : Nat) < nL) (hl : pm_st1 ls (i : Nat) (.ref x) = ls') (k : pm_V l cc own nL ret R g shE mc ms fin sh kc ks (pc + 1) ls' st μ o) : pm_V l cc own nL ret R g shE mc ms fin sh kc ks pc ls (.ref x :: st) μ o := by
  intro z hz p e s m args below meth c D cA ad ad0 n0 A H locs la h1 h2 h3 h4 h5 h6 h7 h8
  subst hl
  refine lv_astore_n (lv := pm_l ad 0 ls) (lv' := _) h1.1 h1.2.1 hd rfl h8 hn rfl (fun la' hla => k z hz p e s m args below meth c D cA ad ad0 n0 A H locs la' h1 h2 h3 h4 h5 h6 h7 ⟨hla.1, hla.2.1, fun q hq => hla.2.2 q ?_⟩)
  exact pm_st1_mem hq
theorem pv_astore {i : Nat} {x : Nat} {ls' : List (Option Value)} (hd : decode cc pc = .ok (.astore i, 2)) (hn : i < nL) (hl : pm_st1 ls i (.ref x) = ls') (k : pm_V l cc own nL ret R g shE mc ms fin sh kc ks (pc + 2) ls' st μ o) : pm_V l cc own nL ret R g shE mc ms fin sh kc ks pc ls (.ref x :: st) μ o := by
  intro z hz p e s m args below meth c D cA ad ad0 n0 A H locs la h1 h2 h3 h4 h5 h6 h7 h8
  subst hl
  refine lv_astore (lv := pm_l ad 0 ls) (lv' := _) h1.1 h1.2.1 hd h8 hn rfl (fun la' hla => k z hz p e s m args below meth c D cA ad ad0 n0 A H locs la' h1 h2 h3 h4 h5 h6 h7 ⟨hla.1, hla.2.1, fun q hq => hla.2.2 q ?_⟩)
  exact pm_st1_mem hq
theorem pv_iinc {i : Nat} {n : Int} {x v : Int32} {ls' : List (Option Value)} (hd : decode cc pc = .ok (.iinc i n, 3)) (hi : ls[i]? = some (some (.int x))) (hv : x + Int32.ofInt n = v) (hn : i < nL) (hl : pm_st1 ls i (.int v) = ls') (k : pm_V l cc own nL ret R g shE mc ms fin sh kc ks (pc + 3) ls' st μ o) : pm_V l cc own nL ret R g shE mc ms fin sh kc ks pc ls st μ o := by
  intro z hz p e s m args below meth c D cA ad ad0 n0 A H locs la h1 h2 h3 h4 h5 h6 h7 h8
  subst hl
  have hm := (pm_l_mem (ad := ad) ls 0 (i, pm_v ad (.int x))).mpr ⟨i, _, hi, by rw [Nat.zero_add]⟩
  obtain ⟨kk, hkk⟩ := List.getElem?_of_mem hm
  refine lv_iinc (lv := pm_l ad 0 ls) (lv' := _) h1.1 h1.2.1 hd h8 hkk hv hn rfl (fun la' hla => k z hz p e s m args below meth c D cA ad ad0 n0 A H locs la' h1 h2 h3 h4 h5 h6 h7 ⟨hla.1, hla.2.1, fun q hq => hla.2.2 q ?_⟩)
  exact pm_st1_mem hq
theorem pv_iadd {x y : Int32} (hd : decode cc pc = .ok (.iadd, 1)) (k : pm_V l cc own nL ret R g shE mc ms fin sh kc ks (pc + 1) ls (.int (x + y) :: st) μ o) : pm_V l cc own nL ret R g shE mc ms fin sh kc ks pc ls (.int y :: .int x :: st) μ o := by
  intro z hz p e s m args below meth c D cA ad ad0 n0 A H locs la h1 h2 h3 h4 h5 h6 h7 h8
  exact lv_iadd h1.1 h1.2.1 hd (k z hz p e s m args below meth c D cA ad ad0 n0 A H locs la h1 h2 h3 h4 h5 h6 h7 h8)
theorem pv_isub {x y : Int32} (hd : decode cc pc = .ok (.isub, 1)) (k : pm_V l cc own nL ret R g shE mc ms fin sh kc ks (pc + 1) ls (.int (x - y) :: st) μ o) : pm_V l cc own nL ret R g shE mc ms fin sh kc ks pc ls (.int y :: .int x :: st) μ o := by
  intro z hz p e s m args below meth c D cA ad ad0 n0 A H locs la h1 h2 h3 h4 h5 h6 h7 h8
  exact lv_isub h1.1 h1.2.1 hd (k z hz p e s m args below meth c D cA ad ad0 n0 A H locs la h1 h2 h3 h4 h5 h6 h7 h8)
theorem pv_imul {x y : Int32} (hd : decode cc pc = .ok (.imul, 1)) (k : pm_V l cc own nL ret R g shE mc ms fin sh kc ks (pc + 1) ls (.int (x * y) :: st) μ o) : pm_V l cc own nL ret R g shE mc ms fin sh kc ks pc ls (.int y :: .int x :: st) μ o := by
  intro z hz p e s m args below meth c D cA ad ad0 n0 A H locs la h1 h2 h3 h4 h5 h6 h7 h8
  exact lv_imul h1.1 h1.2.1 hd (k z hz p e s m args below meth c D cA ad ad0 n0 A H locs la h1 h2 h3 h4 h5 h6 h7 h8)
theorem pv_iand {x y : Int32} (hd : decode cc pc = .ok (.iand, 1)) (k : pm_V l cc own nL ret R g shE mc ms fin sh kc ks (pc + 1) ls (.int (x &&& y) :: st) μ o) : pm_V l cc own nL ret R g shE mc ms fin sh kc ks pc ls (.int y :: .int x :: st) μ o := by
  intro z hz p e s m args below meth c D cA ad ad0 n0 A H locs la h1 h2 h3 h4 h5 h6 h7 h8
  exact lv_iand h1.1 h1.2.1 hd (k z hz p e s m args below meth c D cA ad ad0 n0 A H locs la h1 h2 h3 h4 h5 h6 h7 h8)
theorem pv_ior {x y : Int32} (hd : decode cc pc = .ok (.ior, 1)) (k : pm_V l cc own nL ret R g shE mc ms fin sh kc ks (pc + 1) ls (.int (x ||| y) :: st) μ o) : pm_V l cc own nL ret R g shE mc ms fin sh kc ks pc ls (.int y :: .int x :: st) μ o := by
  intro z hz p e s m args below meth c D cA ad ad0 n0 A H locs la h1 h2 h3 h4 h5 h6 h7 h8
  exact lv_ior h1.1 h1.2.1 hd (k z hz p e s m args below meth c D cA ad ad0 n0 A H locs la h1 h2 h3 h4 h5 h6 h7 h8)
theorem pv_ixor {x y : Int32} (hd : decode cc pc = .ok (.ixor, 1)) (k : pm_V l cc own nL ret R g shE mc ms fin sh kc ks (pc + 1) ls (.int (x ^^^ y) :: st) μ o) : pm_V l cc own nL ret R g shE mc ms fin sh kc ks pc ls (.int y :: .int x :: st) μ o := by
  intro z hz p e s m args below meth c D cA ad ad0 n0 A H locs la h1 h2 h3 h4 h5 h6 h7 h8
  exact lv_ixor h1.1 h1.2.1 hd (k z hz p e s m args below meth c D cA ad ad0 n0 A H locs la h1 h2 h3 h4 h5 h6 h7 h8)
theorem pv_ineg {x : Int32} (hd : decode cc pc = .ok (.ineg, 1)) (k : pm_V l cc own nL ret R g shE mc ms fin sh kc ks (pc + 1) ls (.int (0 - x) :: st) μ o) : pm_V l cc own nL ret R g shE mc ms fin sh kc ks pc ls (.int x :: st) μ o := by
  intro z hz p e s m args below meth c D cA ad ad0 n0 A H locs la h1 h2 h3 h4 h5 h6 h7 h8
  exact lv_ineg h1.1 h1.2.1 hd (k z hz p e s m args below meth c D cA ad ad0 n0 A H locs la h1 h2 h3 h4 h5 h6 h7 h8)
theorem pv_idiv {x y : Int32} (hd : decode cc pc = .ok (.idiv, 1)) (hne : ¬ y = 0) (k : pm_V l cc own nL ret R g shE mc ms fin sh kc ks (pc + 1) ls (.int (x / y) :: st) μ o) : pm_V l cc own nL ret R g shE mc ms fin sh kc ks pc ls (.int y :: .int x :: st) μ o := by
  intro z hz p e s m args below meth c D cA ad ad0 n0 A H locs la h1 h2 h3 h4 h5 h6 h7 h8
  exact lv_idiv h1.1 h1.2.1 hd hne (k z hz p e s m args below meth c D cA ad ad0 n0 A H locs la h1 h2 h3 h4 h5 h6 h7 h8)
theorem pv_irem {x y : Int32} (hd : decode cc pc = .ok (.irem, 1)) (hne : ¬ y = 0) (k : pm_V l cc own nL ret R g shE mc ms fin sh kc ks (pc + 1) ls (.int (pm_rem x y) :: st) μ o) : pm_V l cc own nL ret R g shE mc ms fin sh kc ks pc ls (.int y :: .int x :: st) μ o := by
  intro z hz p e s m args below meth c D cA ad ad0 n0 A H locs la h1 h2 h3 h4 h5 h6 h7 h8
  exact lv_irem h1.1 h1.2.1 hd hne (k z hz p e s m args below meth c D cA ad ad0 n0 A H locs la h1 h2 h3 h4 h5 h6 h7 h8)
theorem pv_ishl {x y : Int32} (hd : decode cc pc = .ok (.ishl, 1)) (k : pm_V l cc own nL ret R g shE mc ms fin sh kc ks (pc + 1) ls (.int (x <<< (y &&& 31)) :: st) μ o) : pm_V l cc own nL ret R g shE mc ms fin sh kc ks pc ls (.int y :: .int x :: st) μ o := by
  intro z hz p e s m args below meth c D cA ad ad0 n0 A H locs la h1 h2 h3 h4 h5 h6 h7 h8
  exact lv_ishl h1.1 h1.2.1 hd (k z hz p e s m args below meth c D cA ad ad0 n0 A H locs la h1 h2 h3 h4 h5 h6 h7 h8)
theorem pv_ishr {x y : Int32} (hd : decode cc pc = .ok (.ishr, 1)) (k : pm_V l cc own nL ret R g shE mc ms fin sh kc ks (pc + 1) ls (.int (x >>> (y &&& 31)) :: st) μ o) : pm_V l cc own nL ret R g shE mc ms fin sh kc ks pc ls (.int y :: .int x :: st) μ o := by
  intro z hz p e s m args below meth c D cA ad ad0 n0 A H locs la h1 h2 h3 h4 h5 h6 h7 h8
  exact lv_ishr h1.1 h1.2.1 hd (k z hz p e s m args below meth c D cA ad ad0 n0 A H locs la h1 h2 h3 h4 h5 h6 h7 h8)
theorem pv_iushr {x y : Int32} (hd : decode cc pc = .ok (.iushr, 1)) (k : pm_V l cc own nL ret R g shE mc ms fin sh kc ks (pc + 1) ls (.int (x.toUInt32 >>> (y.toUInt32 &&& Int32.toUInt32 31)).toInt32 :: st) μ o) : pm_V l cc own nL ret R g shE mc ms fin sh kc ks pc ls (.int y :: .int x :: st) μ o := by
  intro z hz p e s m args below meth c D cA ad ad0 n0 A H locs la h1 h2 h3 h4 h5 h6 h7 h8
  exact lv_iushr h1.1 h1.2.1 hd rfl (k z hz p e s m args below meth c D cA ad ad0 n0 A H locs la h1 h2 h3 h4 h5 h6 h7 h8)
theorem pv_ladd {x y : Int64} (hd : decode cc pc = .ok (.ladd, 1)) (k : pm_V l cc own nL ret R g shE mc ms fin sh kc ks (pc + 1) ls (.long (x + y) :: st) μ o) : pm_V l cc own nL ret R g shE mc ms fin sh kc ks pc ls (.long y :: .long x :: st) μ o := by
  intro z hz p e s m args below meth c D cA ad ad0 n0 A H locs la h1 h2 h3 h4 h5 h6 h7 h8
  exact lv_ladd h1.1 h1.2.1 hd (k z hz p e s m args below meth c D cA ad ad0 n0 A H locs la h1 h2 h3 h4 h5 h6 h7 h8)
theorem pv_lsub {x y : Int64} (hd : decode cc pc = .ok (.lsub, 1)) (k : pm_V l cc own nL ret R g shE mc ms fin sh kc ks (pc + 1) ls (.long (x - y) :: st) μ o) : pm_V l cc own nL ret R g shE mc ms fin sh kc ks pc ls (.long y :: .long x :: st) μ o := by
  intro z hz p e s m args below meth c D cA ad ad0 n0 A H locs la h1 h2 h3 h4 h5 h6 h7 h8
  exact lv_lsub h1.1 h1.2.1 hd (k z hz p e s m args below meth c D cA ad ad0 n0 A H locs la h1 h2 h3 h4 h5 h6 h7 h8)
theorem pv_lmul {x y : Int64} (hd : decode cc pc = .ok (.lmul, 1)) (k : pm_V l cc own nL ret R g shE mc ms fin sh kc ks (pc + 1) ls (.long (x * y) :: st) μ o) : pm_V l cc own nL ret R g shE mc ms fin sh kc ks pc ls (.long y :: .long x :: st) μ o := by
  intro z hz p e s m args below meth c D cA ad ad0 n0 A H locs la h1 h2 h3 h4 h5 h6 h7 h8
  exact lv_lmul h1.1 h1.2.1 hd (k z hz p e s m args below meth c D cA ad ad0 n0 A H locs la h1 h2 h3 h4 h5 h6 h7 h8)
theorem pv_i2l {x : Int32} (hd : decode cc pc = .ok (.i2l, 1)) (k : pm_V l cc own nL ret R g shE mc ms fin sh kc ks (pc + 1) ls (.long x.toInt64 :: st) μ o) : pm_V l cc own nL ret R g shE mc ms fin sh kc ks pc ls (.int x :: st) μ o := by
  intro z hz p e s m args below meth c D cA ad ad0 n0 A H locs la h1 h2 h3 h4 h5 h6 h7 h8
  exact lv_i2l h1.1 h1.2.1 hd rfl (k z hz p e s m args below meth c D cA ad ad0 n0 A H locs la h1 h2 h3 h4 h5 h6 h7 h8)
theorem pv_ldiv {x y : Int64} (hd : decode cc pc = .ok (.ldiv, 1)) (k : pm_V l cc own nL ret R g shE mc ms fin sh kc ks (pc + 1) ls (.long (x / y) :: st) μ o) : pm_V l cc own nL ret R g shE mc ms fin sh kc ks pc ls (.long y :: .long x :: st) μ (if y = 0 then none else o) := by
  intro z hz p e s m args below meth c D cA ad ad0 n0 A H locs la h1 h2 h3 h4 h5 h6 h7 h8
  by_cases hy : y = 0
  · rw [if_pos hy] at hz; cases hz
  · rw [if_neg hy] at hz
    exact lv_ldiv h1.1 h1.2.1 hd hy (k z hz p e s m args below meth c D cA ad ad0 n0 A H locs la h1 h2 h3 h4 h5 h6 h7 h8)
theorem pv_lrem {x y : Int64} (hd : decode cc pc = .ok (.lrem, 1)) (k : pm_V l cc own nL ret R g shE mc ms fin sh kc ks (pc + 1) ls (.long (pm_lrem x y) :: st) μ o) : pm_V l cc own nL ret R g shE mc ms fin sh kc ks pc ls (.long y :: .long x :: st) μ (if y = 0 then none else o) := by
  intro z hz p e s m args below meth c D cA ad ad0 n0 A H locs la h1 h2 h3 h4 h5 h6 h7 h8
  by_cases hy : y = 0
  · rw [if_pos hy] at hz; cases hz
  · rw [if_neg hy] at hz
    exact lv_lrem h1.1 h1.2.1 hd hy (k z hz p e s m args below meth c D cA ad ad0 n0 A H locs la h1 h2 h3 h4 h5 h6 h7 h8)
theorem pv_dup {v : Value} (hd : decode cc pc = .ok (.dup, 1)) (hv : v.category = 1) (k : pm_V l cc own nL ret R g shE mc ms fin sh kc ks (pc + 1) ls (v :: v :: st) μ o) : pm_V l cc own nL ret R g shE mc ms fin sh kc ks pc ls (v :: st) μ o := by
  intro z hz p e s m args below meth c D cA ad ad0 n0 A H locs la h1 h2 h3 h4 h5 h6 h7 h8
  exact lv_dup h1.1 h1.2.1 hd ((pm_cat ad v).trans hv) (k z hz p e s m args below meth c D cA ad ad0 n0 A H locs la h1 h2 h3 h4 h5 h6 h7 h8)
theorem pv_dup2 {va vb : Value} (hd : decode cc pc = .ok (.dup2, 1)) (hv : va.category = 1) (hw : vb.category = 1) (k : pm_V l cc own nL ret R g shE mc ms fin sh kc ks (pc + 1) ls (va :: vb :: va :: vb :: st) μ o) : pm_V l cc own nL ret R g shE mc ms fin sh kc ks pc ls (va :: vb :: st) μ o := by
  intro z hz p e s m args below meth c D cA ad ad0 n0 A H locs la h1 h2 h3 h4 h5 h6 h7 h8
  exact lv_dup2_11 h1.1 h1.2.1 hd ((pm_cat ad va).trans hv) ((pm_cat ad vb).trans hw) (k z hz p e s m args below meth c D cA ad ad0 n0 A H locs la h1 h2 h3 h4 h5 h6 h7 h8)
theorem pv_pop {v : Value} (hd : decode cc pc = .ok (.pop, 1)) (hv : v.category = 1) (k : pm_V l cc own nL ret R g shE mc ms fin sh kc ks (pc + 1) ls (st) μ o) : pm_V l cc own nL ret R g shE mc ms fin sh kc ks pc ls (v :: st) μ o := by
  intro z hz p e s m args below meth c D cA ad ad0 n0 A H locs la h1 h2 h3 h4 h5 h6 h7 h8
  exact lv_pop h1.1 h1.2.1 hd ((pm_cat ad v).trans hv) (k z hz p e s m args below meth c D cA ad ad0 n0 A H locs la h1 h2 h3 h4 h5 h6 h7 h8)
theorem pv_icmp_ne {x y : Int32} {off : Int} {tgt : Nat} (hd : decode cc pc = .ok (.if_icmp .ne off, 3)) (ht : (pc : Int) + off = (tgt : Int)) (k1 : pm_V l cc own nL ret R g shE mc ms fin sh kc ks tgt ls st μ o1) (k2 : pm_V l cc own nL ret R g shE mc ms fin sh kc ks (pc + 3) ls st μ o2) : pm_V l cc own nL ret R g shE mc ms fin sh kc ks pc ls (.int y :: .int x :: st) μ (if x = y then o2 else o1) := by
  intro z hz p e s m args below meth c D cA ad ad0 n0 A H locs la h1 h2 h3 h4 h5 h6 h7 h8
  refine lv_icmp_ne h1.1 h1.2.1 hd ht (fun hc => ?_) (fun hc => ?_)
  · rw [if_neg hc] at hz; exact k1 z hz p e s m args below meth c D cA ad ad0 n0 A H locs la h1 h2 h3 h4 h5 h6 h7 h8
  · rw [if_pos hc] at hz; exact k2 z hz p e s m args below meth c D cA ad ad0 n0 A H locs la h1 h2 h3 h4 h5 h6 h7 h8
theorem pv_if_ne {x : Int32} {off : Int} {tgt : Nat} (hd : decode cc pc = .ok (.ifCond .ne off, 3)) (ht : (pc : Int) + off = (tgt : Int)) (k1 : pm_V l cc own nL ret R g shE mc ms fin sh kc ks tgt ls st μ o1) (k2 : pm_V l cc own nL ret R g shE mc ms fin sh kc ks (pc + 3) ls st μ o2) : pm_V l cc own nL ret R g shE mc ms fin sh kc ks pc ls (.int x :: st) μ (if x = 0 then o2 else o1) := by
  intro z hz p e s m args below meth c D cA ad ad0 n0 A H locs la h1 h2 h3 h4 h5 h6 h7 h8
  refine lv_if_ne h1.1 h1.2.1 hd ht (fun hc => ?_) (fun hc => ?_)
  · rw [if_neg hc] at hz; exact k1 z hz p e s m args below meth c D cA ad ad0 n0 A H locs la h1 h2 h3 h4 h5 h6 h7 h8
  · rw [if_pos hc] at hz; exact k2 z hz p e s m args below meth c D cA ad ad0 n0 A H locs la h1 h2 h3 h4 h5 h6 h7 h8
theorem pv_icmp_eq {x y : Int32} {off : Int} {tgt : Nat} (hd : decode cc pc = .ok (.if_icmp .eq off, 3)) (ht : (pc : Int) + off = (tgt : Int)) (k1 : pm_V l cc own nL ret R g shE mc ms fin sh kc ks tgt ls st μ o1) (k2 : pm_V l cc own nL ret R g shE mc ms fin sh kc ks (pc + 3) ls st μ o2) : pm_V l cc own nL ret R g shE mc ms fin sh kc ks pc ls (.int y :: .int x :: st) μ (if x = y then o1 else o2) := by
  intro z hz p e s m args below meth c D cA ad ad0 n0 A H locs la h1 h2 h3 h4 h5 h6 h7 h8
  refine lv_icmp_eq h1.1 h1.2.1 hd ht (fun hc => ?_) (fun hc => ?_)
  · rw [if_pos hc] at hz; exact k1 z hz p e s m args below meth c D cA ad ad0 n0 A H locs la h1 h2 h3 h4 h5 h6 h7 h8
  · rw [if_neg hc] at hz; exact k2 z hz p e s m args below meth c D cA ad ad0 n0 A H locs la h1 h2 h3 h4 h5 h6 h7 h8
theorem pv_icmp_lt {x y : Int32} {off : Int} {tgt : Nat} (hd : decode cc pc = .ok (.if_icmp .lt off, 3)) (ht : (pc : Int) + off = (tgt : Int)) (k1 : pm_V l cc own nL ret R g shE mc ms fin sh kc ks tgt ls st μ o1) (k2 : pm_V l cc own nL ret R g shE mc ms fin sh kc ks (pc + 3) ls st μ o2) : pm_V l cc own nL ret R g shE mc ms fin sh kc ks pc ls (.int y :: .int x :: st) μ (if x < y then o1 else o2) := by
  intro z hz p e s m args below meth c D cA ad ad0 n0 A H locs la h1 h2 h3 h4 h5 h6 h7 h8
  refine lv_icmp_lt h1.1 h1.2.1 hd ht (fun hc => ?_) (fun hc => ?_)
  · rw [if_pos hc] at hz; exact k1 z hz p e s m args below meth c D cA ad ad0 n0 A H locs la h1 h2 h3 h4 h5 h6 h7 h8
  · rw [if_neg hc] at hz; exact k2 z hz p e s m args below meth c D cA ad ad0 n0 A H locs la h1 h2 h3 h4 h5 h6 h7 h8
theorem pv_icmp_ge {x y : Int32} {off : Int} {tgt : Nat} (hd : decode cc pc = .ok (.if_icmp .ge off, 3)) (ht : (pc : Int) + off = (tgt : Int)) (k1 : pm_V l cc own nL ret R g shE mc ms fin sh kc ks tgt ls st μ o1) (k2 : pm_V l cc own nL ret R g shE mc ms fin sh kc ks (pc + 3) ls st μ o2) : pm_V l cc own nL ret R g shE mc ms fin sh kc ks pc ls (.int y :: .int x :: st) μ (if y ≤ x then o1 else o2) := by
  intro z hz p e s m args below meth c D cA ad ad0 n0 A H locs la h1 h2 h3 h4 h5 h6 h7 h8
  refine lv_icmp_ge h1.1 h1.2.1 hd ht (fun hc => ?_) (fun hc => ?_)
  · rw [if_pos hc] at hz; exact k1 z hz p e s m args below meth c D cA ad ad0 n0 A H locs la h1 h2 h3 h4 h5 h6 h7 h8
  · rw [if_neg hc] at hz; exact k2 z hz p e s m args below meth c D cA ad ad0 n0 A H locs la h1 h2 h3 h4 h5 h6 h7 h8
theorem pv_icmp_gt {x y : Int32} {off : Int} {tgt : Nat} (hd : decode cc pc = .ok (.if_icmp .gt off, 3)) (ht : (pc : Int) + off = (tgt : Int)) (k1 : pm_V l cc own nL ret R g shE mc ms fin sh kc ks tgt ls st μ o1) (k2 : pm_V l cc own nL ret R g shE mc ms fin sh kc ks (pc + 3) ls st μ o2) : pm_V l cc own nL ret R g shE mc ms fin sh kc ks pc ls (.int y :: .int x :: st) μ (if y < x then o1 else o2) := by
  intro z hz p e s m args below meth c D cA ad ad0 n0 A H locs la h1 h2 h3 h4 h5 h6 h7 h8
  refine lv_icmp_gt h1.1 h1.2.1 hd ht (fun hc => ?_) (fun hc => ?_)
  · rw [if_pos hc] at hz; exact k1 z hz p e s m args below meth c D cA ad ad0 n0 A H locs la h1 h2 h3 h4 h5 h6 h7 h8
  · rw [if_neg hc] at hz; exact k2 z hz p e s m args below meth c D cA ad ad0 n0 A H locs la h1 h2 h3 h4 h5 h6 h7 h8
theorem pv_icmp_le {x y : Int32} {off : Int} {tgt : Nat} (hd : decode cc pc = .ok (.if_icmp .le off, 3)) (ht : (pc : Int) + off = (tgt : Int)) (k1 : pm_V l cc own nL ret R g shE mc ms fin sh kc ks tgt ls st μ o1) (k2 : pm_V l cc own nL ret R g shE mc ms fin sh kc ks (pc + 3) ls st μ o2) : pm_V l cc own nL ret R g shE mc ms fin sh kc ks pc ls (.int y :: .int x :: st) μ (if x ≤ y then o1 else o2) := by
  intro z hz p e s m args below meth c D cA ad ad0 n0 A H locs la h1 h2 h3 h4 h5 h6 h7 h8
  refine lv_icmp_le h1.1 h1.2.1 hd ht (fun hc => ?_) (fun hc => ?_)
  · rw [if_pos hc] at hz; exact k1 z hz p e s m args below meth c D cA ad ad0 n0 A H locs la h1 h2 h3 h4 h5 h6 h7 h8
  · rw [if_neg hc] at hz; exact k2 z hz p e s m args below meth c D cA ad ad0 n0 A H locs la h1 h2 h3 h4 h5 h6 h7 h8
theorem pv_if_eq {x : Int32} {off : Int} {tgt : Nat} (hd : decode cc pc = .ok (.ifCond .eq off, 3)) (ht : (pc : Int) + off = (tgt : Int)) (k1 : pm_V l cc own nL ret R g shE mc ms fin sh kc ks tgt ls st μ o1) (k2 : pm_V l cc own nL ret R g shE mc ms fin sh kc ks (pc + 3) ls st μ o2) : pm_V l cc own nL ret R g shE mc ms fin sh kc ks pc ls (.int x :: st) μ (if x = 0 then o1 else o2) := by
  intro z hz p e s m args below meth c D cA ad ad0 n0 A H locs la h1 h2 h3 h4 h5 h6 h7 h8
  refine lv_if_eq h1.1 h1.2.1 hd ht (fun hc => ?_) (fun hc => ?_)
  · rw [if_pos hc] at hz; exact k1 z hz p e s m args below meth c D cA ad ad0 n0 A H locs la h1 h2 h3 h4 h5 h6 h7 h8
  · rw [if_neg hc] at hz; exact k2 z hz p e s m args below meth c D cA ad ad0 n0 A H locs la h1 h2 h3 h4 h5 h6 h7 h8
theorem pv_if_lt {x : Int32} {off : Int} {tgt : Nat} (hd : decode cc pc = .ok (.ifCond .lt off, 3)) (ht : (pc : Int) + off = (tgt : Int)) (k1 : pm_V l cc own nL ret R g shE mc ms fin sh kc ks tgt ls st μ o1) (k2 : pm_V l cc own nL ret R g shE mc ms fin sh kc ks (pc + 3) ls st μ o2) : pm_V l cc own nL ret R g shE mc ms fin sh kc ks pc ls (.int x :: st) μ (if x < 0 then o1 else o2) := by
  intro z hz p e s m args below meth c D cA ad ad0 n0 A H locs la h1 h2 h3 h4 h5 h6 h7 h8
  refine lv_if_lt h1.1 h1.2.1 hd ht (fun hc => ?_) (fun hc => ?_)
  · rw [if_pos hc] at hz; exact k1 z hz p e s m args below meth c D cA ad ad0 n0 A H locs la h1 h2 h3 h4 h5 h6 h7 h8
  · rw [if_neg hc] at hz; exact k2 z hz p e s m args below meth c D cA ad ad0 n0 A H locs la h1 h2 h3 h4 h5 h6 h7 h8
theorem pv_if_ge {x : Int32} {off : Int} {tgt : Nat} (hd : decode cc pc = .ok (.ifCond .ge off, 3)) (ht : (pc : Int) + off = (tgt : Int)) (k1 : pm_V l cc own nL ret R g shE mc ms fin sh kc ks tgt ls st μ o1) (k2 : pm_V l cc own nL ret R g shE mc ms fin sh kc ks (pc + 3) ls st μ o2) : pm_V l cc own nL ret R g shE mc ms fin sh kc ks pc ls (.int x :: st) μ (if 0 ≤ x then o1 else o2) := by
  intro z hz p e s m args below meth c D cA ad ad0 n0 A H locs la h1 h2 h3 h4 h5 h6 h7 h8
  refine lv_if_ge h1.1 h1.2.1 hd ht (fun hc => ?_) (fun hc => ?_)
  · rw [if_pos hc] at hz; exact k1 z hz p e s m args below meth c D cA ad ad0 n0 A H locs la h1 h2 h3 h4 h5 h6 h7 h8
  · rw [if_neg hc] at hz; exact k2 z hz p e s m args below meth c D cA ad ad0 n0 A H locs la h1 h2 h3 h4 h5 h6 h7 h8
theorem pv_if_gt {x : Int32} {off : Int} {tgt : Nat} (hd : decode cc pc = .ok (.ifCond .gt off, 3)) (ht : (pc : Int) + off = (tgt : Int)) (k1 : pm_V l cc own nL ret R g shE mc ms fin sh kc ks tgt ls st μ o1) (k2 : pm_V l cc own nL ret R g shE mc ms fin sh kc ks (pc + 3) ls st μ o2) : pm_V l cc own nL ret R g shE mc ms fin sh kc ks pc ls (.int x :: st) μ (if 0 < x then o1 else o2) := by
  intro z hz p e s m args below meth c D cA ad ad0 n0 A H locs la h1 h2 h3 h4 h5 h6 h7 h8
  refine lv_if_gt h1.1 h1.2.1 hd ht (fun hc => ?_) (fun hc => ?_)
  · rw [if_pos hc] at hz; exact k1 z hz p e s m args below meth c D cA ad ad0 n0 A H locs la h1 h2 h3 h4 h5 h6 h7 h8
  · rw [if_neg hc] at hz; exact k2 z hz p e s m args below meth c D cA ad ad0 n0 A H locs la h1 h2 h3 h4 h5 h6 h7 h8
theorem pv_if_le {x : Int32} {off : Int} {tgt : Nat} (hd : decode cc pc = .ok (.ifCond .le off, 3)) (ht : (pc : Int) + off = (tgt : Int)) (k1 : pm_V l cc own nL ret R g shE mc ms fin sh kc ks tgt ls st μ o1) (k2 : pm_V l cc own nL ret R g shE mc ms fin sh kc ks (pc + 3) ls st μ o2) : pm_V l cc own nL ret R g shE mc ms fin sh kc ks pc ls (.int x :: st) μ (if x ≤ 0 then o1 else o2) := by
  intro z hz p e s m args below meth c D cA ad ad0 n0 A H locs la h1 h2 h3 h4 h5 h6 h7 h8
  refine lv_if_le h1.1 h1.2.1 hd ht (fun hc => ?_) (fun hc => ?_)
  · rw [if_pos hc] at hz; exact k1 z hz p e s m args below meth c D cA ad ad0 n0 A H locs la h1 h2 h3 h4 h5 h6 h7 h8
  · rw [if_neg hc] at hz; exact k2 z hz p e s m args below meth c D cA ad ad0 n0 A H locs la h1 h2 h3 h4 h5 h6 h7 h8
theorem pv_goto {off : Int} {tgt : Nat} (hd : decode cc pc = .ok (.goto off, 3)) (ht : (pc : Int) + off = (tgt : Int)) (k : pm_V l cc own nL ret R g shE mc ms fin sh kc ks tgt ls st μ o) : pm_V l cc own nL ret R g shE mc ms fin sh kc ks pc ls st μ o := by
  intro z hz p e s m args below meth c D cA ad ad0 n0 A H locs la h1 h2 h3 h4 h5 h6 h7 h8
  exact lv_goto h1.1 h1.2.1 hd ht (k z hz p e s m args below meth c D cA ad ad0 n0 A H locs la h1 h2 h3 h4 h5 h6 h7 h8)
theorem pv_let {x : Int32} {K : Int32 → Option τ} (k : ∀ y, pm_V l cc own nL ret R g shE mc ms fin sh kc ks pc ls (.int y :: st) μ (K y)) : pm_V l cc own nL ret R g shE mc ms fin sh kc ks pc ls (.int x :: st) μ (pm_let x K) := k x
theorem pv_letl {x : Int64} {K : Int64 → Option τ} (k : ∀ y, pm_V l cc own nL ret R g shE mc ms fin sh kc ks pc ls (.long y :: st) μ (K y)) : pm_V l cc own nL ret R g shE mc ms fin sh kc ks pc ls (.long x :: st) μ (pm_let x K) := k x
theorem pv_letM {K : pm_M → Option τ} (k : ∀ ν, pm_V l cc own nL ret R g shE mc ms fin sh kc ks pc ls st ν (K ν)) : pm_V l cc own nL ret R g shE mc ms fin sh kc ks pc ls st μ (pm_let μ K) := k μ
theorem pv_weak {ls' : List (Option Value)} (hw : ∀ (i : Nat) (v : Value), ls'[i]? = some (some v) → ls[i]? = some (some v)) (k : pm_V l cc own nL ret R g shE mc ms fin sh kc ks pc ls' st μ o) : pm_V l cc own nL ret R g shE mc ms fin sh kc ks pc ls st μ o := by
  intro z hz p e s m args below meth c D cA ad ad0 n0 A H locs la h1 h2 h3 h4 h5 h6 h7 h8
  exact k z hz p e s m args below meth c D cA ad ad0 n0 A H locs la h1 h2 h3 h4 h5 h6 h7 (pm_l_weak h8 hw)
def pm_mk : List Bool → List (Option Value) → List (Option Value)
  | b :: bs, x :: xs => (if b then x else none) :: pm_mk bs xs
  | _, _ => []
theorem pm_mk_le : ∀ (bs : List Bool) (ls : List (Option Value)) (i : Nat) (v : Value), (pm_mk bs ls)[i]? = some (some v) → ls[i]? = some (some v)
  | [], ls, i, v, h => by simp [pm_mk] at h
  | b :: bs, [], i, v, h => by simp [pm_mk] at h
  | b :: bs, x :: xs, 0, v, h => by
    cases b
    · exact absurd h (by simp [pm_mk])
    · exact h
  | b :: bs, x :: xs, i + 1, v, h => by
    rw [List.getElem?_cons_succ]
    exact pm_mk_le bs xs i v h
theorem pv_mask {ls' : List (Option Value)} (bs : List Bool) (hw : pm_mk bs ls = ls') (k : pm_V l cc own nL ret R g shE mc ms fin sh kc ks pc ls' st μ o) : pm_V l cc own nL ret R g shE mc ms fin sh kc ks pc ls st μ o := pv_weak (fun i v h => pm_mk_le bs ls i v (by rw [hw]; exact h)) k
theorem pv_jn {α : Type} {J : α → Option τ} {T : (α → Option τ) → Option τ} {pcJ : Nat} {lsJ : α → List (Option Value)} {stJ : α → List Value} {mJ : α → pm_M} (hj : ∀ a, pm_V l cc own nL ret R g shE mc ms fin sh kc ks pcJ (lsJ a) (stJ a) (mJ a) (J a)) (ht : ∀ j : α → Option τ, (∀ a, pm_V l cc own nL ret R g shE mc ms fin sh kc ks pcJ (lsJ a) (stJ a) (mJ a) (j a)) → pm_V l cc own nL ret R g shE mc ms fin sh kc ks pc ls st μ (T j)) : pm_V l cc own nL ret R g shE mc ms fin sh kc ks pc ls st μ (pm_jn J T) := ht J hj
theorem pv_loop {σ ε : Type} {body : σ → (σ → Option τ) → (ε → Option τ) → Option τ} {kE : ε → Option τ} {pcE : Nat} {lsf : σ → List (Option Value)} {mf : σ → pm_M} {lsE : ε → List (Option Value)} {mE : ε → pm_M} (hE : ∀ a, pm_V l cc own nL ret R g shE mc ms fin sh kc ks pcE (lsE a) [] (mE a) (kE a))
    (hb : ∀ (E : ε → Option τ), (∀ a, pm_V l cc own nL ret R g shE mc ms fin sh kc ks pcE (lsE a) [] (mE a) (E a)) → ∀ (T : σ → Option τ), (∀ v, pm_V l cc own nL ret R g shE mc ms fin sh kc ks pc (lsf v) [] (mf v) (T v)) → ∀ v, pm_V l cc own nL ret R g shE mc ms fin sh kc ks pc (lsf v) [] (mf v) (body v T E)) :
    ∀ (n : Nat) (v : σ), pm_V l cc own nL ret R g shE mc ms fin sh kc ks pc (lsf v) [] (mf v) (pm_it body n v kE)
  | 0, v => fun x hx => by cases hx
  | n + 1, v => hb kE hE (fun v' => pm_it body n v' kE) (fun v' => pv_loop hE hb n v') v
theorem pv_iald {i : Int32} {j n : Nat} (hd : decode cc pc = .ok (.iaload, 1)) (hs : sh[j]? = some (.inl (0, n))) (k : pm_V l cc own nL ret R g shE mc ms fin sh kc ks (pc + 1) ls (.int (μ j i.toNatClampNeg) :: st) μ o) : pm_V l cc own nL ret R g shE mc ms fin sh kc ks pc ls (.int i :: .ref j :: st) μ (pm_ck i n o) := by
  intro z hz p e s m args below meth c D cA ad ad0 n0 A H locs la h1 h2 h3 h4 h5 h6 h7 h8
  unfold pm_ck at hz
  by_cases hi : i < 0 ∨ n ≤ i.toNatClampNeg
  · rw [if_pos hi] at hz; cases hz
  · rw [if_neg hi] at hz
    exact va_iald h1.1 h1.2.1 h1.2.2.2.2.2.2.2 h5 j 0 (pm_w_get0 hs) rfl hi hd (k z hz p e s m args below meth c D cA ad ad0 n0 A H locs la h1 h2 h3 h4 h5 h6 h7 h8)
theorem pv_zald {i : Int32} {j n : Nat} (hd : decode cc pc = .ok (.baload, 1)) (hs : sh[j]? = some (.inl (1, n))) (k : pm_V l cc own nL ret R g shE mc ms fin sh kc ks (pc + 1) ls (.int (μ j i.toNatClampNeg) :: st) μ o) : pm_V l cc own nL ret R g shE mc ms fin sh kc ks pc ls (.int i :: .ref j :: st) μ (pm_ck i n o) := by
  intro z hz p e s m args below meth c D cA ad ad0 n0 A H locs la h1 h2 h3 h4 h5 h6 h7 h8
  unfold pm_ck at hz
  by_cases hi : i < 0 ∨ n ≤ i.toNatClampNeg
  · rw [if_pos hi] at hz; cases hz
  · rw [if_neg hi] at hz
    exact va_zald h1.1 h1.2.1 h1.2.2.2.2.2.2.2 h5 j 1 (pm_w_get0 hs) rfl hi hd (k z hz p e s m args below meth c D cA ad ad0 n0 A H locs la h1 h2 h3 h4 h5 h6 h7 h8)
theorem pm_up_w {ad : Nat → Nat} {cA : Nat → ClassId} {t n j i : Nat} {x : Int32} (hs : sh[j]? = some (.inl (t, n))) : (pm_w ad cA μ 0 sh).set j (ad j, .inl (cA t, n, .inl (upd (μ j) i x))) = pm_w ad cA (pm_up μ j i x) 0 sh := pm_w_set0 (g := upd (μ j) i x) hs
theorem pv_iast {i x : Int32} {j n : Nat} (hd : decode cc pc = .ok (.iastore, 1)) (hs : sh[j]? = some (.inl (0, n))) (k : pm_V l cc own nL ret R g shE mc ms fin sh kc ks (pc + 1) ls st (pm_up μ j i.toNatClampNeg x) o) : pm_V l cc own nL ret R g shE mc ms fin sh kc ks pc ls (.int x :: .int i :: .ref j :: st) μ (pm_ck i n o) := by
  intro z hz p e s m args below meth c D cA ad ad0 n0 A H locs la h1 h2 h3 h4 h5 h6 h7 h8
  unfold pm_ck at hz
  by_cases hi : i < 0 ∨ n ≤ i.toNatClampNeg
  · rw [if_pos hi] at hz; cases hz
  · rw [if_neg hi] at hz
    refine va_iast h1.1 h1.2.1 h1.2.2.2.2.2.2.2 h5 h6 h7 j 0 (pm_w_get0 hs) rfl hi hd (fun H1 locs1 hP hD hS => ?_)
    rw [pm_up_w hs] at hP hD
    exact k z hz p e s m args below meth c D cA ad ad0 n0 A H1 locs1 la h1 h2 h3 h4 hP hD hS h8
theorem pv_zast {i x : Int32} {j n : Nat} (hd : decode cc pc = .ok (.bastore, 1)) (hs : sh[j]? = some (.inl (1, n))) (hx : vp_nar .boolean x = x) (k : pm_V l cc own nL ret R g shE mc ms fin sh kc ks (pc + 1) ls st (pm_up μ j i.toNatClampNeg x) o) : pm_V l cc own nL ret R g shE mc ms fin sh kc ks pc ls (.int x :: .int i :: .ref j :: st) μ (pm_ck i n o) := by
  intro z hz p e s m args below meth c D cA ad ad0 n0 A H locs la h1 h2 h3 h4 h5 h6 h7 h8
  unfold pm_ck at hz
  by_cases hi : i < 0 ∨ n ≤ i.toNatClampNeg
  · rw [if_pos hi] at hz; cases hz
  · rw [if_neg hi] at hz
    refine va_zast h1.1 h1.2.1 h1.2.2.2.2.2.2.2 h5 h6 h7 j 1 (pm_w_get0 hs) rfl hi hd (fun H1 locs1 hP hD hS => ?_)
    rw [hx, pm_up_w hs] at hP hD
    exact k z hz p e s m args below meth c D cA ad ad0 n0 A H1 locs1 la h1 h2 h3 h4 hP hD hS h8
theorem pv_alen {j t n : Nat} {v : Int32} (hd : decode cc pc = .ok (.arraylength, 1)) (hs : sh[j]? = some (.inl (0, n))) (hv : Int32.ofNat n = v) (k : pm_V l cc own nL ret R g shE mc ms fin sh kc ks (pc + 1) ls (.int v :: st) μ o) : pm_V l cc own nL ret R g shE mc ms fin sh kc ks pc ls (.ref j :: st) μ o := by
  intro z hz p e s m args below meth c D cA ad ad0 n0 A H locs la h1 h2 h3 h4 h5 h6 h7 h8
  exact va_alen (x := (n, .inl (μ j))) h1.1 h1.2.1 h1.2.2.2.2.2.2.2 h5 j 0 (pm_w_get0 hs) rfl hv hd (k z hz p e s m args below meth c D cA ad ad0 n0 A H locs la h1 h2 h3 h4 h5 h6 h7 h8)
/-- a field's link: class own's constant idx is field k of the class at place ci of vwCl -/
def pm_FL (own : String) (idx ci k : Nat) : Prop := ∃ (C : String) (T : u_T) (N : Nat), (∀ w ∈ u_ws C T N, w ∈ pm_T) ∧ vwCl[ci]? = some (C, T, N) ∧ k < N ∧ (Cond.fieldLink own idx (T k).1 (T k).2.1 (T k).2.2.1 ∈ pm_T ∨ ∃ host, Cond.fieldLinkNest own idx (T k).1 (T k).2.1 (T k).2.2.1 host ∈ pm_T)
def pm_FP (own : String) (idx ci k : Nat) (fin : Bool) (ty : FieldType) : Prop := ∃ (C : String) (T : u_T) (N : Nat) (ty0 : Nat → FieldType), (∀ w ∈ u_ws C T N, w ∈ pm_T) ∧ vwCl[ci]? = some (C, T, N) ∧ k < N ∧ Cond.fieldLink own idx (T k).1 (T k).2.1 (T k).2.2.1 ∈ pm_T ∧ (∀ k, k < N → parseFieldDescriptor (T k).2.2.1 = some (ty0 k)) ∧ (∀ a, a < N → ∀ b, b < N → a ≠ b → (T a).2.1 ≠ (T b).2.1) ∧ (T k).2.2.2 = fin ∧ parseFieldDescriptor (T k).2.2.1 = some ty ∧ (fin = true → (T k).1 = own)
theorem pv_getr {idx ci k0 j : Nat} {fs : List (Option Value)} {v : Value} (hd : decode cc pc = .ok (.getfield idx, 3)) (hF : pm_FL own idx ci k0) (hs : sh[j]? = some (.inr (ci, fs))) (hf : fs[k0]? = some (some v)) (k : pm_V l cc own nL ret R g shE mc ms fin sh kc ks (pc + 3) ls (v :: st) μ o) : pm_V l cc own nL ret R g shE mc ms fin sh kc ks pc ls (.ref j :: st) μ o := by
  intro z hz p e s m args below meth c D cA ad ad0 n0 A H locs la h1 h2 h3 h4 h5 h6 h7 h8
  obtain ⟨C, T, N, f1, f2, f3, f4⟩ := hF
  rcases f4 with f4 | ⟨host, f4⟩
  · exact va_get h1.1 h1.2.1 h1.2.2.2.2.2.2.1 f1 h1.2.2.2.1 h1.2.2.2.2.2.2.2 h5 j (pm_w_get0 hs) f2 k0 f3 (h1.2.2.2.2.2.2.1 _ f4) (fun _ h => h) (pm_f_some fs 0 k0 hf) hd (k z hz p e s m args below meth c D cA ad ad0 n0 A H locs la h1 h2 h3 h4 h5 h6 h7 h8)
  · exact va_getN h1.1 h1.2.1 h1.2.2.2.2.2.2.1 f1 h1.2.2.2.1 h1.2.2.2.2.2.2.2 h5 j (pm_w_get0 hs) f2 k0 f3 (h1.2.2.2.2.2.2.1 _ f4) (fun _ h => h) (pm_f_some fs 0 k0 hf) hd (k z hz p e s m args below meth c D cA ad ad0 n0 A H locs la h1 h2 h3 h4 h5 h6 h7 h8)
theorem pv_geti {idx ci k0 j : Nat} {fs : List (Option Value)} (hd : decode cc pc = .ok (.getfield idx, 3)) (hF : pm_FL own idx ci k0) (hs : sh[j]? = some (.inr (ci, fs))) (hf : fs[k0]? = some none) (k : pm_V l cc own nL ret R g shE mc ms fin sh kc ks (pc + 3) ls (.int (μ j k0) :: st) μ o) : pm_V l cc own nL ret R g shE mc ms fin sh kc ks pc ls (.ref j :: st) μ o := by
  intro z hz p e s m args below meth c D cA ad ad0 n0 A H locs la h1 h2 h3 h4 h5 h6 h7 h8
  obtain ⟨C, T, N, f1, f2, f3, f4⟩ := hF
  rcases f4 with f4 | ⟨host, f4⟩
  · exact va_get h1.1 h1.2.1 h1.2.2.2.2.2.2.1 f1 h1.2.2.2.1 h1.2.2.2.2.2.2.2 h5 j (pm_w_get0 hs) f2 k0 f3 (h1.2.2.2.2.2.2.1 _ f4) (fun _ h => h) ((pm_f_none fs 0 k0 hf).trans (by rw [Nat.zero_add]; rfl)) hd (k z hz p e s m args below meth c D cA ad ad0 n0 A H locs la h1 h2 h3 h4 h5 h6 h7 h8)
  · exact va_getN h1.1 h1.2.1 h1.2.2.2.2.2.2.1 f1 h1.2.2.2.1 h1.2.2.2.2.2.2.2 h5 j (pm_w_get0 hs) f2 k0 f3 (h1.2.2.2.2.2.2.1 _ f4) (fun _ h => h) ((pm_f_none fs 0 k0 hf).trans (by rw [Nat.zero_add]; rfl)) hd (k z hz p e s m args below meth c D cA ad ad0 n0 A H locs la h1 h2 h3 h4 h5 h6 h7 h8)
theorem pv_puti {idx ci k0 j : Nat} {fs : List (Option Value)} {ty : FieldType} {x : Int32} (hd : decode cc pc = .ok (.putfield idx, 3)) (hF : pm_FP own idx ci k0 false ty) (hs : sh[j]? = some (.inr (ci, fs))) (hf : fs[k0]? = some none) (hn : narrow ty (.int x) = .int x) (hfit : fits ty (.int x) = true) (k : pm_V l cc own nL ret R g shE mc ms fin sh kc ks (pc + 3) ls st (pm_up μ j k0 x) o) : pm_V l cc own nL ret R g shE mc ms fin sh kc ks pc ls (.int x :: .ref j :: st) μ o := by
  intro z hz p e s m args below meth c D cA ad ad0 n0 A H locs la h1 h2 h3 h4 h5 h6 h7 h8
  obtain ⟨C, T, N, ty0, f1, f2, f3, f4, f5, f6, f7, f8, f9⟩ := hF
  refine va_put h1.1 h1.2.1 h1.2.2.2.2.2.2.1 f1 ty0 f5 f6 h1.2.2.2.1 h1.2.2.2.2.2.2.2 h5 h6 h7 j (pm_w_get0 hs) f2 k0 f3 (h1.2.2.2.2.2.2.1 _ f4) (fun _ h => h) f7 f8 hn hfit (by rw [pm_f_len]; exact (List.getElem?_eq_some_iff.mp hf).1) hd (fun H1 locs1 hP hD hS => ?_)
  have e1 : (pm_w ad cA μ 0 sh).set j (ad j, .inr (ci, (pm_f ad (μ j) 0 fs).set k0 (.int x))) = pm_w ad cA (pm_up μ j k0 x) 0 sh := by
    rw [pm_f_int fs (μ j) 0 k0 hf, Nat.zero_add]
    exact pm_w_set0 (g := upd (μ j) k0 x) hs
  have hP : va_P D vwCl (pm_w ad cA (pm_up μ j k0 x) 0 sh) H1 := by rw [← e1]; exact hP
  have hD : va_D A (pm_w ad cA (pm_up μ j k0 x) 0 sh) := by rw [← e1]; exact hD
  exact k z hz p e s m args below meth c D cA ad ad0 n0 A H1 locs1 la h1 h2 h3 h4 hP hD hS h8
theorem pv_iret {v : Int32} {ty : FieldType} {x : τ} (hd : decode cc pc = .ok (.ireturn, 1)) (hr : ret = some ty) (hn : narrow ty (.int v) = .int v) (hx : fin x = (some (.int v), μ)) : pm_V l cc own nL ret R g sh kc ks fin sh kc ks pc ls [.int v] μ (some x) := by
  intro z hz p e s m args below meth c D cA ad ad0 n0 A H locs la h1 h2 h3 h4 h5 h6 h7 h8
  cases hz
  rw [hx]
  exact W.zret h1.1 h1.2.1 (h1.2.2.2.2.1.trans hr) hn (fun t ht hW => ⟨⟨rfl, ad, h2, by rw [ht]; exact h5, h6⟩, h7.F ht⟩) h7.2.2 hd h1.2.2.2.2.2.1
theorem pv_zret {v : Int32} {ty : FieldType} {x : τ} (hd : decode cc pc = .ok (.ireturn, 1)) (hr : ret = some .boolean) (hx : fin x = (some (.int v), μ)) : pm_V l cc own nL ret R g sh kc ks fin sh kc ks pc ls [.int v] μ (if v = 0 ∨ v = 1 then some x else none) := by
  intro z hz p e s m args below meth c D cA ad ad0 n0 A H locs la h1 h2 h3 h4 h5 h6 h7 h8
  by_cases hv : v = 0 ∨ v = 1
  · rw [if_pos hv] at hz
    exact pv_iret (l := l) (g := g) (sh := sh) (kc := kc) (ks := ks) (R := R) (ls := ls) hd hr (by rcases hv with rfl | rfl <;> rfl) hx z hz p e s m args below meth c D cA ad ad0 n0 A H locs la h1 h2 h3 h4 h5 h6 h7 h8
  · rw [if_neg hv] at hz; cases hz
theorem pv_lret {v : Int64} {x : τ} (hd : decode cc pc = .ok (.lreturn, 1)) (hr : ret = some .long) (hx : fin x = (some (.long v), μ)) : pm_V l cc own nL ret R g sh kc ks fin sh kc ks pc ls [.long v] μ (some x) := by
  intro z hz p e s m args below meth c D cA ad ad0 n0 A H locs la h1 h2 h3 h4 h5 h6 h7 h8
  cases hz
  rw [hx]
  exact W.lret h1.1 h1.2.1 (h1.2.2.2.2.1.trans hr) (fun t ht hW => ⟨⟨rfl, ad, h2, by rw [ht]; exact h5, h6⟩, h7.F ht⟩) h7.2.2 hd h1.2.2.2.2.2.1
theorem pv_vret {x : τ} (hd : decode cc pc = .ok (.return_, 1)) (hr : ret = none) (hx : fin x = (none, μ)) : pm_V l cc own nL ret R g sh kc ks fin sh kc ks pc ls [] μ (some x) := by
  intro z hz p e s m args below meth c D cA ad ad0 n0 A H locs la h1 h2 h3 h4 h5 h6 h7 h8
  cases hz
  rw [hx]
  exact W.vret h1.1 h1.2.1 (h1.2.2.2.2.1.trans hr) (fun t ht hW => ⟨⟨rfl, ad, h2, by rw [ht]; exact h5, h6⟩, h7.F ht⟩) h7.2.2 hd h1.2.2.2.2.2.1
end PMR
end
section
/-! words of the tables: kept by every state that comes -/
theorem pm_warm {args : Array Value} {s : State} (h : ∀ w ∈ pm_T, w.before args s = true) : ∀ w ∈ pm_T, ∀ (a' : Array Value) (U : State), s.WarmedH U.vm → w.before a' U = true := by
  intro w hw a' U hW
  have h1 : pm_okw w = true := (List.mem_filter.mp hw).2
  have h2 := h w hw
  cases w <;> first
    | exact va_Nw.use rfl (va_Nw.warmF hW (va_Nw.of rfl h2))
    | exact va_Nw.use rfl (va_Nw.warmM hW (va_Nw.of rfl h2))
    | exact word_at hW (good_of_word h1) h2
/-! THE CONTRACT of a method: from the cells sh with the numbers μ it ends with what 'o' says. -/
def pm_Ok {τ : Type} (l : Launch) (y : MethodName) (cc : ByteArray) (nL : Nat) (ret : Option FieldType) (R : Room) (av : List Value) (sh : pm_S) (g : Bool) (shE : pm_S) (mc ms : Nat) (fin : τ → Option Value × pm_M) (μ : pm_M) (o : Option τ) : Prop :=
  ∀ x, o = some x → ∀ (D : va_G) (cA : Nat → ClassId) (ad : Nat → Nat) (n0 sz : Nat), (g = true → n0 ≤ sh.length) →
    Met l y (Cond.code y cc nL ret :: pm_T) R (va_Pc (av.map (pm_v ad)) (fun U => U.heap.size = sz ∧ va_P D vwCl (pm_w ad cA μ 0 sh) U.heap ∧ va_K D vwCl (pm_ty cA) U ∧ va_D (fun _ => True) (pm_w ad cA μ 0 sh))) (pm_Q D cA ad n0 shE (fin x).1 (fin x).2 (va_A (pm_w ad cA μ 0 sh) sz)) mc ms (va_A (pm_w ad cA μ 0 sh) sz)
def pm_x : List Value → List (Option Value)
  | [] => []
  | v :: vs => if v.category = 2 then some v :: none :: pm_x vs else some v :: pm_x vs
def pm_a (nL : Nat) (av : List Value) : List (Option Value) := pm_x av ++ List.replicate (nL - (pm_x av).length) none
theorem pm_a_mem {ad : Nat → Nat} {k : Nat} : ∀ (av : List Value) (i : Nat) (q : Nat × Value), q ∈ pm_l ad i (pm_x av ++ List.replicate k none) → q ∈ lv_args i (av.map (pm_v ad))
  | [], i, q, h => by
    obtain ⟨j, v, h1, -⟩ := (pm_l_mem _ i q).mp h
    have h2 := List.eq_of_mem_replicate (show some v ∈ List.replicate k none from List.mem_of_getElem? h1)
    cases h2
  | v :: vs, i, q, h => by
    by_cases hc : v.category = 2
    · have e1 : pm_x (v :: vs) = some v :: none :: pm_x vs := by show (if v.category = 2 then _ else _) = _; rw [if_pos hc]
      rw [e1] at h
      have h : q ∈ (i, pm_v ad v) :: pm_l ad (i + 2) (pm_x vs ++ List.replicate k none) := h
      show q ∈ (i, pm_v ad v) :: lv_args (if (pm_v ad v).category = 2 then i + 2 else i + 1) (vs.map (pm_v ad))
      rw [pm_cat, if_pos hc]
      rcases List.mem_cons.mp h with h | h
      · exact List.mem_cons.mpr (Or.inl h)
      · exact List.mem_cons_of_mem _ (pm_a_mem vs (i + 2) q h)
    · have e1 : pm_x (v :: vs) = some v :: pm_x vs := by show (if v.category = 2 then _ else _) = _; rw [if_neg hc]
      rw [e1] at h
      have h : q ∈ (i, pm_v ad v) :: pm_l ad (i + 1) (pm_x vs ++ List.replicate k none) := h
      show q ∈ (i, pm_v ad v) :: lv_args (if (pm_v ad v).category = 2 then i + 2 else i + 1) (vs.map (pm_v ad))
      rw [pm_cat, if_neg hc]
      rcases List.mem_cons.mp h with h | h
      · exact List.mem_cons.mpr (Or.inl h)
      · exact List.mem_cons_of_mem _ (pm_a_mem vs (i + 1) q h)
theorem pm_enter {τ : Type} {l : Launch} {y : MethodName} {cc : ByteArray} {own : String} {nL : Nat} {ret : Option FieldType} {R : Room} {av : List Value} {sh : pm_S} {g : Bool} {shE : pm_S} {mc ms : Nat} {fin : τ → Option Value × pm_M} {μ : pm_M} {o : Option τ} {ls : List (Option Value)}
    (hy : plainName y.cls = true) (ho : y.cls = own) (hi : g = true → y.name = "<init>") (hls : pm_a nL av = ls) (hlen : ∀ ad, (lg_sl (av.map (pm_v ad))).length ≤ nL) (k : pm_V l cc own nL ret R g shE mc ms fin sh 0 0 0 ls [] μ o) : pm_Ok l y cc nL ret R av sh g shE mc ms fin μ o := by
  intro x hx D cA ad n0 sz hn0
  refine Met.ofW (cc := cc) (maxL := nL) (ret := ret) hy rfl ?_
  intro p e s m args below meth c s₁ B hml hv
  obtain ⟨rfl, hsz, hP, hK, hD0⟩ := hv
  have hts := atoms_spec (ws := Cond.code y cc nL ret :: pm_T) B.pre
  have hown : s.vm.findClass own = some m.cls := ho ▸ findClass_of_methodNamed B.named
  subst hsz
  subst hls
  have hl := lv_entry (av.map (pm_v ad)) (n := nL) (hlen ad)
  rw [lg_entry_eq]
  refine k x hx p e s m _ below meth c D cA ad ad n0 (va_A (pm_w ad cA μ 0 sh) s.heap.size) s.heap [] _ ⟨B.exec, B.bytes, hml, hown, B.returns, B.notSynchronized, fun w hw => hts w (List.mem_cons_of_mem _ hw), hK⟩ (fun _ _ => rfl) (fun hg => ⟨hn0 hg, ((name_of_methodNamed B.named B.method).1).trans (hi hg)⟩) (fun q h => Or.inr h) hP hD0.self va_S.rf ?_
  exact ⟨hl.1, hl.2.1, fun q hq => hl.2.2 q (pm_a_mem av 0 q hq)⟩
/-! CALLS: what the tables say of a method, and of a link to it -/
def pm_Y (y : MethodName) (cc : ByteArray) (nL : Nat) (ret : Option FieldType) (n : Nat) : Prop := Cond.code y cc nL ret ∈ pm_T ∧ Cond.initialized y.cls ∈ pm_T ∧ (y.cls ≠ "java/lang/invoke/MethodHandle" ∧ y.cls ≠ "java/lang/invoke/VarHandle") ∧ (parseMethodDescriptor y.desc).map (fun d => d.parameters.length) = some n
def pm_LS (own : String) (idx : Nat) (y : MethodName) : Prop := (Cond.methodLink own idx y ∈ pm_T ∨ ∃ host, Cond.methodLinkNest own idx y host ∈ pm_T) ∧ Cond.static y ∈ pm_T
def pm_LV (own : String) (idx : Nat) (y : MethodName) : Prop := Cond.methodLink own idx y ∈ pm_T ∧ Cond.instanceMethod y ∈ pm_T ∧ Cond.selects y.cls y y ∈ pm_T
def pm_LI (own : String) (idx : Nat) (y : MethodName) : Prop := Cond.methodLink own idx y ∈ pm_T ∧ Cond.instanceMethod y ∈ pm_T ∧ y.name = "<init>"
/-- the room of a callee fits the caller's -/
def pm_rm (R' : Room) (nL' : Nat) (R : Room) (mc ms : Nat) : Prop := R'.cells = mc ∧ R'.slots = ms ∧ R'.frames + 1 ≤ R.frames ∧ 8 + (nL' + 11) + R'.locals ≤ R.locals
theorem pm_cb {R R' : Room} {s : State} {args : Array Value} {own : String} {idx n nL' mc ms : Nat} {y : MethodName} {cc' : ByteArray} {ret' : Option FieldType} (hts : ∀ w ∈ pm_T, w.before args s = true) (hY : pm_Y y cc' nL' ret' n) (hL : Cond.methodLink own idx y ∈ pm_T) (hr : pm_rm R' nL' R mc ms) :
    CallB R s args own idx y cc' nL' ret' (Cond.code y cc' nL' ret' :: pm_T) R' mc ms n := by
  obtain ⟨y1, y2, y3, y4⟩ := hY
  refine ⟨hr.1, hr.2.1, hr.2.2.1, hr.2.2.2, fun w hw => pm_warm hts w ((List.mem_cons.mp hw).elim (fun e => e ▸ y1) id), List.mem_cons_self, hts _ y1, hts _ y2, y3, fun sig h => ?_, hts _ hL⟩
  rw [h] at y4
  exact (Option.some.inj y4).symm
theorem pm_cn {R R' : Room} {s : State} {args : Array Value} {own host : String} {idx n nL' mc ms : Nat} {y : MethodName} {cc' : ByteArray} {ret' : Option FieldType} (hts : ∀ w ∈ pm_T, w.before args s = true) (hY : pm_Y y cc' nL' ret' n) (hL : Cond.methodLinkNest own idx y host ∈ pm_T) (hr : pm_rm R' nL' R mc ms) :
    va_CN R s args own idx y host cc' nL' ret' (Cond.code y cc' nL' ret' :: pm_T) R' mc ms n := by
  obtain ⟨y1, y2, y3, y4⟩ := hY
  refine ⟨⟨hr.1, hr.2.1, hr.2.2.1, hr.2.2.2, fun w hw => pm_warm hts w ((List.mem_cons.mp hw).elim (fun e => e ▸ y1) id), List.mem_cons_self⟩, hts _ y1, hts _ y2, y3, fun sig h => ?_, hts _ hL⟩
  rw [h] at y4
  exact (Option.some.inj y4).symm
theorem pm_pre {s : State} {H : Heap} {D : va_G} {cA : Nat → ClassId} {ad : Nat → Nat} {sh : pm_S} {μ : pm_M} {A : Nat → Prop} (hK : va_K D vwCl (pm_ty cA) s) (hP : va_P D vwCl (pm_w ad cA μ 0 sh) H) (hD : va_D A (pm_w ad cA μ 0 sh)) (As : List Value) :
    PreS s H (va_Pc As (fun U => U.heap.size = H.size ∧ va_P D vwCl (pm_w ad cA μ 0 sh) U.heap ∧ va_K D vwCl (pm_ty cA) U ∧ va_D (fun _ => True) (pm_w ad cA μ 0 sh))) As :=
  ⟨fun a U g mk q => by obtain ⟨q0, q1, qP, qK, qD⟩ := q; exact ⟨q0, q1, qP, va_K.moved (u := U) (U := U.calling g mk a) (Vm.Alike.refl U.vm) qK, qD⟩, fun U hU hW => ⟨rfl, by rw [hU], by rw [hU]; exact hP, va_K.moved hW.alike hK, hD.weaken (fun _ _ _ _ => trivial)⟩⟩
theorem pm_after {p : Program} {l : Launch} {e : Env} {R : Room} {s : State} {m : MethodId} {args : Array Value} {below : List Frame} {meth : Method} {c : Code} {H : Heap} {locs : List Loc} {kc ks mc' ms' n1 pc : Nat} {Q : State → Prop} {la : Array Slot} {st0 rest : List Value} {D : va_G} {cA : Nat → ClassId} {ad : Nat → Nat} {A : Nat → Prop} {sh sh' : pm_S} {rv : Option Value} {μ μ' : pm_M} {a : Array Value}
    (hr : va_Run p l e R s m args below meth c H locs kc ks mc' ms' (F0 m pc la st0) rest (pm_Q D cA ad n1 sh' rv μ' (va_A (pm_w ad cA μ 0 sh) H.size) a) (va_A (pm_w ad cA μ 0 sh) H.size)) (h4 : ∀ q, s.heap.size ≤ q → A q) (h6 : va_D A (pm_w ad cA μ 0 sh)) (h7 : va_S A s.heap H locs)
    (kk : ∀ (ad' : Nat → Nat) (H1 : Heap) (locs1 : List Loc), (∀ i, i < n1 → ad' i = ad i) → va_P D vwCl (pm_w ad' cA μ' 0 sh') H1 → va_D A (pm_w ad' cA μ' 0 sh') → va_S A s.heap H1 locs1 → W p l e R s m args below meth c H1 locs1 (kc + mc') (ks + ms') Q (F0 m (pc + 3) la (rv.toList ++ rest))) : W p l e R s m args below meth c H locs kc ks Q (F0 m pc la st0) := by
  have hF : ∀ q, va_A (pm_w ad cA μ 0 sh) H.size q → A q := by
    rintro q (⟨k, x, hk⟩ | h)
    · exact h6.2 k _ hk
    · exact h4 q (Nat.le_trans h7.1 h)
  intro T hT X
  obtain ⟨v, st₀, t, T', L, h0, X', hL, e1, e2, ⟨⟨hv, ad', ha, hP, hD⟩, hz, hk⟩, stp⟩ := hr T hT X
  cases hv
  rw [h0] at hz hk
  obtain ⟨t2, a1, b1⟩ := kk ad' T'.heap (locs ++ L) ha (by rw [e1]; exact hP) (hD.weaken (fun k q _ h => hF q.1 h))
    ⟨Nat.le_trans h7.1 (by rw [e1]; exact hz), fun q q1 q2 => by rw [e1, hk q (Nat.lt_of_lt_of_le q1 h7.1) (fun z => q2 (hF q z))]; exact h7.2.1 q q1 q2, fun q hq => by
      rcases List.mem_append.mp hq with h | h
      · exact h7.2.2 q h
      · exact hF _ (hL q h)⟩ T' rfl X'
  exact ⟨t2, stp t2 a1, b1⟩
section PMC
variable {τ : Type} {l : Launch} {cc : ByteArray} {own : String} {nL : Nat} {ret : Option FieldType} {R : Room} {g : Bool} {shE : pm_S} {mc ms : Nat} {fin : τ → Option Value × pm_M} {sh : pm_S} {kc ks pc : Nat} {ls : List (Option Value)} {st : List Value} {μ : pm_M} {o o1 o2 : Option τ}
variable {τ' : Type} {idx n nL' : Nat} {y : MethodName} {cc' : ByteArray} {ret' : Option FieldType} {R' : Room} {rest : List Value} {fin' : τ' → Option Value × pm_M} {oc : Option τ'} {K : τ' → Option τ}
theorem pv_cs0 {av : List Value} (hd : decode cc pc = .ok (.invokestatic idx, 3)) (hY : pm_Y y cc' nL' ret' n) (hL : pm_LS own idx y) (hok : pm_Ok l y cc' nL' ret' R' av sh false sh 0 0 fin' μ oc) (hn : av.length = n) (hr : pm_rm R' nL' R 0 0) (hk : kc ≤ R.cells ∧ ks ≤ R.slots) (hw : (rest.map fun v => v.category).sum ≤ 8) (hst : st = av.reverse ++ rest) (hv : ∀ x ad, (fin' x).1.toList.map (pm_v ad) = (fin' x).1.toList)
    (k : ∀ x, pm_V l cc own nL ret R g shE mc ms fin sh kc ks (pc + 3) ls ((fin' x).1.toList ++ rest) (fin' x).2 (K x)) : pm_V l cc own nL ret R g shE mc ms fin sh kc ks pc ls st μ (oc.bind K) := by
  intro z hz p e s m args below meth c D cA ad ad0 n0 A H locs la h1 h2 h3 h4 h5 h6 h7 h8
  obtain ⟨x, hx, hz⟩ := Option.bind_eq_some_iff.mp hz
  obtain ⟨n1, hn1⟩ := pm_w_ad sh 0
  have hM := hok x hx D cA ad n1 H.size (fun h => by cases h)
  have hts := h1.2.2.2.2.2.2.1
  have hpre := pm_pre h1.2.2.2.2.2.2.2 h5 h6 (av.map (pm_v ad))
  have hcat : (rest.map (pm_v ad)).map (fun v => v.category) = rest.map (fun v => v.category) := by
    rw [List.map_map]; exact List.map_congr_left (fun v _ => pm_cat ad v)
  have hstk : st.map (pm_v ad) = (av.map (pm_v ad)).reverse ++ rest.map (pm_v ad) := by rw [hst, List.map_append, List.map_reverse]
  have hrun : va_Run p l e R s m args below meth c H locs kc ks 0 0 (F0 m pc la (st.map (pm_v ad))) (rest.map (pm_v ad)) (pm_Q D cA ad n1 sh (fin' x).1 (fin' x).2 (va_A (pm_w ad cA μ 0 sh) H.size) (av.map (pm_v ad)).toArray) (va_A (pm_w ad cA μ 0 sh) H.size) := by
    obtain ⟨hL1, hL2⟩ := hL
    rcases hL1 with hL1 | ⟨host, hL1⟩
    · exact va_runS (n := n) (cc := cc) ⟨h1.1, h1.2.1, h1.2.2.1, h1.2.2.2.1, hts⟩ hM ⟨pm_cb hts hY hL1 hr, hts _ hL2⟩ hpre rfl (by rw [List.length_map]; exact hn) h8.1 hstk (by rw [hcat]; show 2 * 0 + _ ≤ 8; omega) hd hk
    · exact va_runSN (n := n) (cc := cc) ⟨h1.1, h1.2.1, h1.2.2.1, h1.2.2.2.1, hts⟩ hM ⟨pm_cn hts hY hL1 hr, hts _ hL2, trivial⟩ hpre rfl (by rw [List.length_map]; exact hn) h8.1 hstk (by rw [hcat]; show 2 * 0 + _ ≤ 8; omega) hd hk
  refine pm_after hrun h4 h6 h7 (fun ad' H1 locs1 ha hP hD hS => ?_)
  rw [hn1 ad ad' cA (fin' x).2 ha] at hP hD
  have hg := k x z hz p e s m args below meth c D cA ad ad0 n0 A H1 locs1 la h1 h2 h3 h4 hP hD hS h8
  rw [List.map_append, hv x ad] at hg
  exact hg
theorem pv_cv0 {as : List Value} {j ci N : Nat} {T : u_T} {fs : List (Option Value)} (hd : decode cc pc = .ok (.invokevirtual idx, 3)) (hY : pm_Y y cc' nL' ret' n) (hL : pm_LV own idx y) (hok : pm_Ok l y cc' nL' ret' R' (.ref j :: as) sh false sh 0 0 fin' μ oc) (hs : sh[j]? = some (.inr (ci, fs))) (hc : vwCl[ci]? = some (y.cls, T, N)) (hn : as.length = n) (hr : pm_rm R' nL' R 0 0) (hk : kc ≤ R.cells ∧ ks ≤ R.slots) (hw : (rest.map fun v => v.category).sum ≤ 8) (hst : st = as.reverse ++ .ref j :: rest) (hv : ∀ x ad, (fin' x).1.toList.map (pm_v ad) = (fin' x).1.toList)
    (k : ∀ x, pm_V l cc own nL ret R g shE mc ms fin sh kc ks (pc + 3) ls ((fin' x).1.toList ++ rest) (fin' x).2 (K x)) : pm_V l cc own nL ret R g shE mc ms fin sh kc ks pc ls st μ (oc.bind K) := by
  intro z hz p e s m args below meth c D cA ad ad0 n0 A H locs la h1 h2 h3 h4 h5 h6 h7 h8
  obtain ⟨x, hx, hz⟩ := Option.bind_eq_some_iff.mp hz
  obtain ⟨n1, hn1⟩ := pm_w_ad sh 0
  have hM := hok x hx D cA ad n1 H.size (fun h => by cases h)
  have hts := h1.2.2.2.2.2.2.1
  have hpre := pm_pre h1.2.2.2.2.2.2.2 h5 h6 ((Value.ref j :: as).map (pm_v ad))
  have hcat : (rest.map (pm_v ad)).map (fun v => v.category) = rest.map (fun v => v.category) := by
    rw [List.map_map]; exact List.map_congr_left (fun v _ => pm_cat ad v)
  have hstk : st.map (pm_v ad) = (as.map (pm_v ad)).reverse ++ Value.ref (ad j) :: rest.map (pm_v ad) := by rw [hst, List.map_append, List.map_reverse]; rfl
  have hrun : va_Run p l e R s m args below meth c H locs kc ks 0 0 (F0 m pc la (st.map (pm_v ad))) (rest.map (pm_v ad)) (pm_Q D cA ad n1 sh (fin' x).1 (fin' x).2 (va_A (pm_w ad cA μ 0 sh) H.size) (Value.ref (ad j) :: as.map (pm_v ad)).toArray) (va_A (pm_w ad cA μ 0 sh) H.size) :=
    va_runV (n := n) (cc := cc) (C := y.cls) ⟨h1.1, h1.2.1, h1.2.2.1, h1.2.2.2.1, hts⟩ hM ⟨pm_cb hts hY hL.1 hr, hts _ hL.2.1, hts _ hL.2.2⟩ ⟨hpre.1, va_recv h1.2.2.2.2.2.2.2 h5 hc (pm_w_get0 hs), hpre.2⟩ rfl (by rw [List.length_map]; exact hn) h8.1 hstk (by rw [hcat]; show 2 * 0 + _ ≤ 8; omega) hd hk
  refine pm_after hrun h4 h6 h7 (fun ad' H1 locs1 ha hP hD hS => ?_)
  rw [hn1 ad ad' cA (fin' x).2 ha] at hP hD
  have hg := k x z hz p e s m args below meth c D cA ad ad0 n0 A H1 locs1 la h1 h2 h3 h4 hP hD hS h8
  rw [List.map_append, hv x ad] at hg
  exact hg
theorem pv_cs_ri {av : List Value} {oc : Option Int32} {K : Int32 → Option τ} (hd : decode cc pc = .ok (.invokestatic idx, 3)) (hY : pm_Y y cc' nL' ret' n) (hL : pm_LS own idx y) (hok : pm_Ok l y cc' nL' ret' R' av sh false sh 0 0 (fun r => (some (.int r), μ)) μ oc) (hn : av.length = n) (hr : pm_rm R' nL' R 0 0) (hk : kc ≤ R.cells ∧ ks ≤ R.slots) (hw : (rest.map fun v => v.category).sum ≤ 8) (hst : st = av.reverse ++ rest)
    (k : ∀ x, pm_V l cc own nL ret R g shE mc ms fin sh kc ks (pc + 3) ls (.int x :: rest) μ (K x)) : pm_V l cc own nL ret R g shE mc ms fin sh kc ks pc ls st μ (oc.bind K) := pv_cs0 hd hY hL hok hn hr hk hw hst (fun _ _ => rfl) k
theorem pv_cv_ri {as : List Value} {j ci N : Nat} {T : u_T} {fs : List (Option Value)} {oc : Option Int32} {K : Int32 → Option τ} (hd : decode cc pc = .ok (.invokevirtual idx, 3)) (hY : pm_Y y cc' nL' ret' n) (hL : pm_LV own idx y) (hok : pm_Ok l y cc' nL' ret' R' (.ref j :: as) sh false sh 0 0 (fun r => (some (.int r), μ)) μ oc) (hs : sh[j]? = some (.inr (ci, fs))) (hc : vwCl[ci]? = some (y.cls, T, N)) (hn : as.length = n) (hr : pm_rm R' nL' R 0 0) (hk : kc ≤ R.cells ∧ ks ≤ R.slots) (hw : (rest.map fun v => v.category).sum ≤ 8) (hst : st = as.reverse ++ .ref j :: rest)
    (k : ∀ x, pm_V l cc own nL ret R g shE mc ms fin sh kc ks (pc + 3) ls (.int x :: rest) μ (K x)) : pm_V l cc own nL ret R g shE mc ms fin sh kc ks pc ls st μ (oc.bind K) := pv_cv0 hd hY hL hok hs hc hn hr hk hw hst (fun _ _ => rfl) k
theorem pv_cs_rl {av : List Value} {oc : Option Int64} {K : Int64 → Option τ} (hd : decode cc pc = .ok (.invokestatic idx, 3)) (hY : pm_Y y cc' nL' ret' n) (hL : pm_LS own idx y) (hok : pm_Ok l y cc' nL' ret' R' av sh false sh 0 0 (fun r => (some (.long r), μ)) μ oc) (hn : av.length = n) (hr : pm_rm R' nL' R 0 0) (hk : kc ≤ R.cells ∧ ks ≤ R.slots) (hw : (rest.map fun v => v.category).sum ≤ 8) (hst : st = av.reverse ++ rest)
    (k : ∀ x, pm_V l cc own nL ret R g shE mc ms fin sh kc ks (pc + 3) ls (.long x :: rest) μ (K x)) : pm_V l cc own nL ret R g shE mc ms fin sh kc ks pc ls st μ (oc.bind K) := pv_cs0 hd hY hL hok hn hr hk hw hst (fun _ _ => rfl) k
theorem pv_cv_rl {as : List Value} {j ci N : Nat} {T : u_T} {fs : List (Option Value)} {oc : Option Int64} {K : Int64 → Option τ} (hd : decode cc pc = .ok (.invokevirtual idx, 3)) (hY : pm_Y y cc' nL' ret' n) (hL : pm_LV own idx y) (hok : pm_Ok l y cc' nL' ret' R' (.ref j :: as) sh false sh 0 0 (fun r => (some (.long r), μ)) μ oc) (hs : sh[j]? = some (.inr (ci, fs))) (hc : vwCl[ci]? = some (y.cls, T, N)) (hn : as.length = n) (hr : pm_rm R' nL' R 0 0) (hk : kc ≤ R.cells ∧ ks ≤ R.slots) (hw : (rest.map fun v => v.category).sum ≤ 8) (hst : st = as.reverse ++ .ref j :: rest)
    (k : ∀ x, pm_V l cc own nL ret R g shE mc ms fin sh kc ks (pc + 3) ls (.long x :: rest) μ (K x)) : pm_V l cc own nL ret R g shE mc ms fin sh kc ks pc ls st μ (oc.bind K) := pv_cv0 hd hY hL hok hs hc hn hr hk hw hst (fun _ _ => rfl) k
theorem pv_cs_wi {av : List Value} {oc : Option (Int32 × pm_M)} {K : (Int32 × pm_M) → Option τ} (hd : decode cc pc = .ok (.invokestatic idx, 3)) (hY : pm_Y y cc' nL' ret' n) (hL : pm_LS own idx y) (hok : pm_Ok l y cc' nL' ret' R' av sh false sh 0 0 (fun r => (some (.int r.1), r.2)) μ oc) (hn : av.length = n) (hr : pm_rm R' nL' R 0 0) (hk : kc ≤ R.cells ∧ ks ≤ R.slots) (hw : (rest.map fun v => v.category).sum ≤ 8) (hst : st = av.reverse ++ rest)
    (k : ∀ x, pm_V l cc own nL ret R g shE mc ms fin sh kc ks (pc + 3) ls (.int x.1 :: rest) x.2 (K x)) : pm_V l cc own nL ret R g shE mc ms fin sh kc ks pc ls st μ (oc.bind K) := pv_cs0 hd hY hL hok hn hr hk hw hst (fun _ _ => rfl) k
theorem pv_cv_wi {as : List Value} {j ci N : Nat} {T : u_T} {fs : List (Option Value)} {oc : Option (Int32 × pm_M)} {K : (Int32 × pm_M) → Option τ} (hd : decode cc pc = .ok (.invokevirtual idx, 3)) (hY : pm_Y y cc' nL' ret' n) (hL : pm_LV own idx y) (hok : pm_Ok l y cc' nL' ret' R' (.ref j :: as) sh false sh 0 0 (fun r => (some (.int r.1), r.2)) μ oc) (hs : sh[j]? = some (.inr (ci, fs))) (hc : vwCl[ci]? = some (y.cls, T, N)) (hn : as.length = n) (hr : pm_rm R' nL' R 0 0) (hk : kc ≤ R.cells ∧ ks ≤ R.slots) (hw : (rest.map fun v => v.category).sum ≤ 8) (hst : st = as.reverse ++ .ref j :: rest)
    (k : ∀ x, pm_V l cc own nL ret R g shE mc ms fin sh kc ks (pc + 3) ls (.int x.1 :: rest) x.2 (K x)) : pm_V l cc own nL ret R g shE mc ms fin sh kc ks pc ls st μ (oc.bind K) := pv_cv0 hd hY hL hok hs hc hn hr hk hw hst (fun _ _ => rfl) k
theorem pv_cs_wv {av : List Value} {oc : Option pm_M} {K : pm_M → Option τ} (hd : decode cc pc = .ok (.invokestatic idx, 3)) (hY : pm_Y y cc' nL' ret' n) (hL : pm_LS own idx y) (hok : pm_Ok l y cc' nL' ret' R' av sh false sh 0 0 (fun r => (none, r)) μ oc) (hn : av.length = n) (hr : pm_rm R' nL' R 0 0) (hk : kc ≤ R.cells ∧ ks ≤ R.slots) (hw : (rest.map fun v => v.category).sum ≤ 8) (hst : st = av.reverse ++ rest)
    (k : ∀ x, pm_V l cc own nL ret R g shE mc ms fin sh kc ks (pc + 3) ls (rest) x (K x)) : pm_V l cc own nL ret R g shE mc ms fin sh kc ks pc ls st μ (oc.bind K) := pv_cs0 hd hY hL hok hn hr hk hw hst (fun _ _ => rfl) k
theorem pv_cv_wv {as : List Value} {j ci N : Nat} {T : u_T} {fs : List (Option Value)} {oc : Option pm_M} {K : pm_M → Option τ} (hd : decode cc pc = .ok (.invokevirtual idx, 3)) (hY : pm_Y y cc' nL' ret' n) (hL : pm_LV own idx y) (hok : pm_Ok l y cc' nL' ret' R' (.ref j :: as) sh false sh 0 0 (fun r => (none, r)) μ oc) (hs : sh[j]? = some (.inr (ci, fs))) (hc : vwCl[ci]? = some (y.cls, T, N)) (hn : as.length = n) (hr : pm_rm R' nL' R 0 0) (hk : kc ≤ R.cells ∧ ks ≤ R.slots) (hw : (rest.map fun v => v.category).sum ≤ 8) (hst : st = as.reverse ++ .ref j :: rest)
    (k : ∀ x, pm_V l cc own nL ret R g shE mc ms fin sh kc ks (pc + 3) ls (rest) x (K x)) : pm_V l cc own nL ret R g shE mc ms fin sh kc ks pc ls st μ (oc.bind K) := pv_cv0 hd hY hL hok hs hc hn hr hk hw hst (fun _ _ => rfl) k
def pm_cp (μ : pm_M) (j0 j1 N : Nat) : pm_M := pm_row μ j1 (va_cpy (μ j0) (μ j1) 0 0 N)
theorem pv_copy {j0 j1 n0' n1' N : Nat} {nn : Int32} (hd : decode cc pc = .ok (.invokestatic idx, 3)) (hL : Cond.methodLink own idx arraycopyName ∈ pm_T) (hL2 : Cond.native arraycopyName ∈ pm_T) (hL3 : Cond.static arraycopyName ∈ pm_T) (hL4 : Cond.initialized "java/lang/System" ∈ pm_T) (hs0 : sh[j0]? = some (.inl (0, n0'))) (hs1 : sh[j1]? = some (.inl (0, n1'))) (hn0 : ¬ nn < 0) (hN : nn.toNatClampNeg = N) (hN0 : N ≤ n0') (hN1 : N ≤ n1') (hf : 1 ≤ R.frames) (hlo : (st.map fun v => v.category).sum + 18 ≤ R.locals)
    (k : pm_V l cc own nL ret R g shE mc ms fin sh kc ks (pc + 3) ls st (pm_cp μ j0 j1 N) o) : pm_V l cc own nL ret R g shE mc ms fin sh kc ks pc ls (.int nn :: .int 0 :: .ref j1 :: .int 0 :: .ref j0 :: st) μ o := by
  intro z hz p e s m args below meth c D cA ad ad0 n0 A H locs la h1 h2 h3 h4 h5 h6 h7 h8
  have hts := h1.2.2.2.2.2.2.1
  subst hN
  have hcat : (st.map (pm_v ad)).map (fun v => v.category) = st.map (fun v => v.category) := by
    rw [List.map_map]; exact List.map_congr_left (fun v _ => pm_cat ad v)
  refine va_copyi (sp := 0) (dp := 0) (ty := .int) h1.1 h1.2.1 (h1.2.2.1.trans h8.1.symm) h1.2.2.2.1 (hts _ hL) (hts _ hL2) (hts _ hL3) (hts _ hL4) h1.2.2.2.2.2.2.2 h5 h6 h7 j0 j1 0 0 (pm_w_get0 hs0) (pm_w_get0 hs1) rfl rfl rfl (by decide) (by decide) hn0 (by show 0 + _ ≤ _; omega) (by show 0 + _ ≤ _; omega) (fun _ _ => rfl) hf (by rw [hcat]; exact hlo) hd (fun H1 locs1 hP hD hS => ?_)
  have e1 : (pm_w ad cA μ 0 sh).set j1 (ad j1, .inl (cA 0, n1', .inl (va_cpy (μ j0) (μ j1) 0 0 nn.toNatClampNeg))) = pm_w ad cA (pm_cp μ j0 j1 nn.toNatClampNeg) 0 sh := pm_w_set0 (g := va_cpy (μ j0) (μ j1) 0 0 nn.toNatClampNeg) hs1
  have hP : va_P D vwCl (pm_w ad cA (pm_cp μ j0 j1 nn.toNatClampNeg) 0 sh) H1 := by rw [← e1]; exact hP
  have hD : va_D A (pm_w ad cA (pm_cp μ j0 j1 nn.toNatClampNeg) 0 sh) := by rw [← e1]; exact hD
  exact k z hz p e s m args below meth c D cA ad ad0 n0 A H1 locs1 la h1 h2 h3 h4 hP hD hS h8
theorem pv_lcmp {x y : Int64} (hd : decode cc pc = .ok (.lcmp, 1)) (k : pm_V l cc own nL ret R g shE mc ms fin sh kc ks (pc + 1) ls (.int (lg_cmp x y) :: st) μ o) : pm_V l cc own nL ret R g shE mc ms fin sh kc ks pc ls (.long y :: .long x :: st) μ o := by
  intro z hz p e s m args below meth c D cA ad ad0 n0 A H locs la h1 h2 h3 h4 h5 h6 h7 h8
  exact W.lcmp h1.1 h1.2.1 hd (k z hz p e s m args below meth c D cA ad ad0 n0 A H locs la h1 h2 h3 h4 h5 h6 h7 h8)
/-! switches -/
def pm_sw {τ : Type} (x : Int32) : List Int32 → List (Option τ) → Option τ → Option τ
  | a :: as, b :: bs, d => if x = a then b else pm_sw x as bs d
  | _, _, d => d
def pm_all2 {τ : Type} (P : Nat → Option τ → Prop) : List Nat → List (Option τ) → Prop
  | t :: ts, b :: bs => P t b ∧ pm_all2 P ts bs
  | [], [] => True
  | _, _ => False
theorem pm_sw_at {τ : Type} {x : Int32} {P : Nat → Option τ → Prop} {d : Option τ} : ∀ (ks : List Int32) (ts : List Nat) (bs : List (Option τ)), ks.length = ts.length → pm_all2 P ts bs → (∃ i t : Nat, ks[i]? = some x ∧ ts[i]? = some t ∧ (∀ j : Nat, j < i → ks[j]? ≠ some x) ∧ P t (pm_sw x ks bs d)) ∨ ((∀ i : Nat, ks[i]? ≠ some x) ∧ pm_sw x ks bs d = d)
  | [], [], [], _, _ => Or.inr ⟨fun i h => by simp at h, rfl⟩
  | a :: as, t :: ts, b :: bs, hl, h => by
    by_cases hx : x = a
    · refine Or.inl ⟨0, t, by rw [hx]; rfl, rfl, fun j hj => by omega, ?_⟩
      show P t (if x = a then b else _)
      rw [if_pos hx]
      exact h.1
    · have e : pm_sw x (a :: as) (b :: bs) d = pm_sw x as bs d := by show (if x = a then b else _) = _; rw [if_neg hx]
      rw [e]
      rcases pm_sw_at (d := d) as ts bs (by simpa using hl) h.2 with ⟨i, t', h1, h2, h3, h4⟩ | ⟨h1, h2⟩
      · refine Or.inl ⟨i + 1, t', h1, h2, fun j hj => ?_, h4⟩
        cases j with
        | zero => rw [List.getElem?_cons_zero]; exact fun q => hx (Option.some.inj q).symm
        | succ j => rw [List.getElem?_cons_succ]; exact h3 j (by omega)
      · refine Or.inr ⟨fun i => ?_, h2⟩
        cases i with
        | zero => rw [List.getElem?_cons_zero]; exact fun q => hx (Option.some.inj q).symm
        | succ j => rw [List.getElem?_cons_succ]; exact h1 j
  | [], [], _ :: _, _, h => absurd h (by simp [pm_all2])
  | [], _ :: _, _, hl, _ => by simp at hl
  | _ :: _, [], _, hl, _ => by simp at hl
  | _ :: _, _ :: _, [], _, h => absurd h (by simp [pm_all2])
theorem pm_look {x : Int32} {d : Int} {pc : Nat} : ∀ (ks : List Int32) (ts : List Nat), ks.length = ts.length → (∀ i t : Nat, ks[i]? = some x → ts[i]? = some t → (∀ j : Nat, j < i → ks[j]? ≠ some x) → Op.lookupswitch.offset ((ks.map Int32.toInt).zip (ts.map (fun t : Nat => (t : Int) - (pc : Int)))) d x.toInt = (t : Int) - pc) ∧ ((∀ i : Nat, ks[i]? ≠ some x) → Op.lookupswitch.offset ((ks.map Int32.toInt).zip (ts.map (fun t : Nat => (t : Int) - (pc : Int)))) d x.toInt = d)
  | [], [], _ => ⟨fun i t h => by simp at h, fun _ => rfl⟩
  | a :: as, t :: ts, hl => by
    obtain ⟨i1, i2⟩ := pm_look (x := x) (d := d) (pc := pc) as ts (by simpa using hl)
    have e : ((a :: as).map Int32.toInt).zip ((t :: ts).map (fun t : Nat => (t : Int) - (pc : Int))) = (a.toInt, (t : Int) - pc) :: (as.map Int32.toInt).zip (ts.map (fun t : Nat => (t : Int) - (pc : Int))) := rfl
    rw [e]
    refine ⟨fun i t' h1 h2 h3 => ?_, fun h => ?_⟩
    · cases i with
      | zero =>
        rw [List.getElem?_cons_zero] at h1 h2
        cases h1
        cases h2
        rw [Op.lookupswitch.offset_cons, if_pos rfl]
      | succ i =>
        have hne : ¬ x = a := fun q => h3 0 (by omega) (by rw [q]; rfl)
        rw [lv_osw hne rfl]
        rw [List.getElem?_cons_succ] at h1 h2
        exact i1 i t' h1 h2 (fun j hj => h3 (j + 1) (by omega))
    · have hne : ¬ x = a := fun q => h 0 (by rw [q]; rfl)
      rw [lv_osw hne rfl]
      exact i2 (fun i => h (i + 1))
  | [], _ :: _, hl => by simp at hl
  | _ :: _, [], hl => by simp at hl
theorem pv_lookup {x : Int32} {dflt : Int} {ps : Array (Int × Int)} {len tD : Nat} {kys : List Int32} {ts : List Nat} {bs : List (Option τ)} {od : Option τ} (hd : decode cc pc = .ok (.lookupswitch dflt ps, len)) (hp : (ps.toList.zip (ps.toList.drop 1)).all (fun (a, next) => a.1 < next.1) = true) (hl : kys.length = ts.length) (hps : ps.toList = (kys.map Int32.toInt).zip (ts.map (fun t : Nat => (t : Int) - (pc : Int)))) (hD : (pc : Int) + dflt = (tD : Int))
    (k : pm_all2 (fun t b => pm_V l cc own nL ret R g shE mc ms fin sh kc ks t ls st μ b) ts bs) (kd : pm_V l cc own nL ret R g shE mc ms fin sh kc ks tD ls st μ od) : pm_V l cc own nL ret R g shE mc ms fin sh kc ks pc ls (.int x :: st) μ (pm_sw x kys bs od) := by
  rcases pm_sw_at (x := x) (d := od) kys ts bs hl k with ⟨i, t, a1, a2, a3, a4⟩ | ⟨a1, a2⟩
  · intro z hz p e s m args below meth c D cA ad ad0 n0 A H locs la h1 h2 h3 h4 h5 h6 h7 h8
    exact lv_lookup h1.1 h1.2.1 hd hp (off := (t : Int) - pc) (tgt := t) (by rw [hps]; exact (pm_look kys ts hl).1 i t a1 a2 a3) (by omega) (a4 z hz p e s m args below meth c D cA ad ad0 n0 A H locs la h1 h2 h3 h4 h5 h6 h7 h8)
  · rw [a2]
    intro z hz p e s m args below meth c D cA ad ad0 n0 A H locs la h1 h2 h3 h4 h5 h6 h7 h8
    exact lv_lookup h1.1 h1.2.1 hd hp (off := dflt) (tgt := tD) (by rw [hps]; exact (pm_look kys ts hl).2 a1) hD (kd z hz p e s m args below meth c D cA ad ad0 n0 A H locs la h1 h2 h3 h4 h5 h6 h7 h8)
theorem pv_table {x : Int32} {dflt lo hi : Int} {offs : Array Int} {len tD : Nat} {kys : List Int32} {ts : List Nat} {bs : List (Option τ)} {od : Option τ} (hd : decode cc pc = .ok (.tableswitch dflt lo hi offs, len)) (hl : kys.length = ts.length) (hks : kys.map Int32.toInt = (List.range kys.length).map (fun i : Nat => lo + (i : Int))) (hhi : hi + 1 = lo + (kys.length : Int)) (hof : offs.toList = ts.map (fun t : Nat => (t : Int) - (pc : Int))) (hD : (pc : Int) + dflt = (tD : Int))
    (k : pm_all2 (fun t b => pm_V l cc own nL ret R g shE mc ms fin sh kc ks t ls st μ b) ts bs) (kd : pm_V l cc own nL ret R g shE mc ms fin sh kc ks tD ls st μ od) : pm_V l cc own nL ret R g shE mc ms fin sh kc ks pc ls (.int x :: st) μ (pm_sw x kys bs od) := by
  have key : ∀ (i : Nat) (a : Int32), kys[i]? = some a → a.toInt = lo + (i : Int) := by
    intro i a h
    have h2 : (kys.map Int32.toInt)[i]? = some a.toInt := by rw [List.getElem?_map, h]; rfl
    rw [hks, List.getElem?_map, List.getElem?_range (List.getElem?_eq_some_iff.mp h).1] at h2
    exact (Option.some.inj h2).symm
  rcases pm_sw_at (x := x) (d := od) kys ts bs hl k with ⟨i, t, a1, a2, a3, a4⟩ | ⟨a1, a2⟩
  · intro z hz p e s m args below meth c D cA ad ad0 n0 A H locs la h1 h2 h3 h4 h5 h6 h7 h8
    have hx := key i x a1
    have hi := (List.getElem?_eq_some_iff.mp a1).1
    refine lv_tableIn h1.1 h1.2.1 hd (off := (t : Int) - pc) (tgt := t) (by omega) (by omega) ?_ (by omega) (a4 z hz p e s m args below meth c D cA ad ad0 n0 A H locs la h1 h2 h3 h4 h5 h6 h7 h8)
    rw [← Array.getElem?_toList, hof, List.getElem?_map, show (x.toInt - lo).toNat = i by omega, a2]
    rfl
  · rw [a2]
    intro z hz p e s m args below meth c D cA ad ad0 n0 A H locs la h1 h2 h3 h4 h5 h6 h7 h8
    refine lv_tableOut h1.1 h1.2.1 hd (tgt := tD) ?_ hD (kd z hz p e s m args below meth c D cA ad ad0 n0 A H locs la h1 h2 h3 h4 h5 h6 h7 h8)
    by_cases q : x.toInt < lo ∨ hi < x.toInt
    · exact q
    · exfalso
      have hlt : (x.toInt - lo).toNat < kys.length := by omega
      have h9 := key _ _ (List.getElem?_eq_getElem hlt)
      have h10 : kys[(x.toInt - lo).toNat] = x := Int32.toInt_inj.mp (by rw [h9]; omega)
      exact a1 _ (by rw [List.getElem?_eq_getElem hlt, h10])
def pm_FPn (own : String) (idx ci k : Nat) (ty : FieldType) : Prop := ∃ (C : String) (T : u_T) (N : Nat) (ty0 : Nat → FieldType) (host : String), (∀ w ∈ u_ws C T N, w ∈ pm_T) ∧ vwCl[ci]? = some (C, T, N) ∧ k < N ∧ Cond.fieldLinkNest own idx (T k).1 (T k).2.1 (T k).2.2.1 host ∈ pm_T ∧ (∀ k, k < N → parseFieldDescriptor (T k).2.2.1 = some (ty0 k)) ∧ (∀ a, a < N → ∀ b, b < N → a ≠ b → (T a).2.1 ≠ (T b).2.1) ∧ (T k).2.2.2 = false ∧ parseFieldDescriptor (T k).2.2.1 = some ty
theorem pv_putn {ci k0 j : Nat} {fs : List (Option Value)} {ty : FieldType} {x : Int32} (hd : decode cc pc = .ok (.putfield idx, 3)) (hF : pm_FPn own idx ci k0 ty) (hs : sh[j]? = some (.inr (ci, fs))) (hf : fs[k0]? = some none) (hn : narrow ty (.int x) = .int x) (hfit : fits ty (.int x) = true) (k : pm_V l cc own nL ret R g shE mc ms fin sh kc ks (pc + 3) ls st (pm_up μ j k0 x) o) : pm_V l cc own nL ret R g shE mc ms fin sh kc ks pc ls (.int x :: .ref j :: st) μ o := by
  intro z hz p e s m args below meth c D cA ad ad0 n0 A H locs la h1 h2 h3 h4 h5 h6 h7 h8
  obtain ⟨C, T, N, ty0, host, f1, f2, f3, f4, f5, f6, f7, f8⟩ := hF
  refine va_putN h1.1 h1.2.1 h1.2.2.2.2.2.2.1 f1 ty0 f5 f6 h1.2.2.2.1 h1.2.2.2.2.2.2.2 h5 h6 h7 j (pm_w_get0 hs) f2 k0 f3 (h1.2.2.2.2.2.2.1 _ f4) (fun _ h => h) f7 f8 hn hfit (by rw [pm_f_len]; exact (List.getElem?_eq_some_iff.mp hf).1) hd (fun H1 locs1 hP hD hS => ?_)
  have e1 : (pm_w ad cA μ 0 sh).set j (ad j, .inr (ci, (pm_f ad (μ j) 0 fs).set k0 (.int x))) = pm_w ad cA (pm_up μ j k0 x) 0 sh := by
    rw [pm_f_int fs (μ j) 0 k0 hf, Nat.zero_add]
    exact pm_w_set0 (g := upd (μ j) k0 x) hs
  have hP : va_P D vwCl (pm_w ad cA (pm_up μ j k0 x) 0 sh) H1 := by rw [← e1]; exact hP
  have hD : va_D A (pm_w ad cA (pm_up μ j k0 x) 0 sh) := by rw [← e1]; exact hD
  exact k z hz p e s m args below meth c D cA ad ad0 n0 A H1 locs1 la h1 h2 h3 h4 hP hD hS h8
end PMC
end
section
theorem pm_ws {C : String} {T : u_T} {N : Nat} (h : ∀ k, k < N → u_lay C T k ∈ pm_T) : ∀ w ∈ u_ws C T N, w ∈ pm_T := by
  intro w hw
  obtain ⟨k, hk, rfl⟩ := List.mem_map.mp hw
  exact h k (List.mem_range.mp hk)
theorem tw_65 : u_lay RX1 TX1 0 ∈ pm_T := pm_in (List.mem_append_right _ (List.mem_of_getElem? (i := 65) (by decide +kernel))) rfl
theorem tw_67 : u_lay RX1 TX1 1 ∈ pm_T := pm_in (List.mem_append_right _ (List.mem_of_getElem? (i := 67) (by decide +kernel))) rfl
theorem in_X1 : ∀ w ∈ u_ws RX1 TX1 2, w ∈ pm_T := pm_ws (fun k hk => match k, hk with
  | 0, _ => tw_65
  | 1, _ => tw_67
  | k + 2, h => absurd h (by omega))
theorem tw_45 : u_lay RX2 TX2 0 ∈ pm_T := pm_in (List.mem_append_right _ (List.mem_of_getElem? (i := 45) (by decide +kernel))) rfl
theorem tw_47 : u_lay RX2 TX2 1 ∈ pm_T := pm_in (List.mem_append_right _ (List.mem_of_getElem? (i := 47) (by decide +kernel))) rfl
theorem tw_49 : u_lay RX2 TX2 2 ∈ pm_T := pm_in (List.mem_append_right _ (List.mem_of_getElem? (i := 49) (by decide +kernel))) rfl
theorem tw_51 : u_lay RX2 TX2 3 ∈ pm_T := pm_in (List.mem_append_right _ (List.mem_of_getElem? (i := 51) (by decide +kernel))) rfl
theorem tw_53 : u_lay RX2 TX2 4 ∈ pm_T := pm_in (List.mem_append_right _ (List.mem_of_getElem? (i := 53) (by decide +kernel))) rfl
theorem in_X2 : ∀ w ∈ u_ws RX2 TX2 5, w ∈ pm_T := pm_ws (fun k hk => match k, hk with
  | 0, _ => tw_45
  | 1, _ => tw_47
  | 2, _ => tw_49
  | 3, _ => tw_51
  | 4, _ => tw_53
  | k + 5, h => absurd h (by omega))
theorem tw_122 : u_lay RX3 TX3 0 ∈ pm_T := pm_in (List.mem_append_right _ (List.mem_of_getElem? (i := 122) (by decide +kernel))) rfl
theorem tw_124 : u_lay RX3 TX3 1 ∈ pm_T := pm_in (List.mem_append_right _ (List.mem_of_getElem? (i := 124) (by decide +kernel))) rfl
theorem in_X3 : ∀ w ∈ u_ws RX3 TX3 2, w ∈ pm_T := pm_ws (fun k hk => match k, hk with
  | 0, _ => tw_122
  | 1, _ => tw_124
  | k + 2, h => absurd h (by omega))
theorem tw_181 : u_lay RX4 TX4 0 ∈ pm_T := pm_in (List.mem_append_right _ (List.mem_of_getElem? (i := 181) (by decide +kernel))) rfl
theorem in_X4 : ∀ w ∈ u_ws RX4 TX4 1, w ∈ pm_T := pm_ws (fun k hk => match k, hk with
  | 0, _ => tw_181
  | k + 1, h => absurd h (by omega))
theorem tw_166 : u_lay RX5 TX5 0 ∈ pm_T := pm_in (List.mem_append_right _ (List.mem_of_getElem? (i := 166) (by decide +kernel))) rfl
theorem tw_168 : u_lay RX5 TX5 1 ∈ pm_T := pm_in (List.mem_append_right _ (List.mem_of_getElem? (i := 168) (by decide +kernel))) rfl
theorem in_X5 : ∀ w ∈ u_ws RX5 TX5 2, w ∈ pm_T := pm_ws (fun k hk => match k, hk with
  | 0, _ => tw_166
  | 1, _ => tw_168
  | k + 2, h => absurd h (by omega))
theorem tw_86 : u_lay RX6 TX6 0 ∈ pm_T := pm_in (List.mem_append_right _ (List.mem_of_getElem? (i := 86) (by decide +kernel))) rfl
theorem tw_88 : u_lay RX6 TX6 1 ∈ pm_T := pm_in (List.mem_append_right _ (List.mem_of_getElem? (i := 88) (by decide +kernel))) rfl
theorem tw_90 : u_lay RX6 TX6 2 ∈ pm_T := pm_in (List.mem_append_right _ (List.mem_of_getElem? (i := 90) (by decide +kernel))) rfl
theorem tw_92 : u_lay RX6 TX6 3 ∈ pm_T := pm_in (List.mem_append_right _ (List.mem_of_getElem? (i := 92) (by decide +kernel))) rfl
theorem in_X6 : ∀ w ∈ u_ws RX6 TX6 4, w ∈ pm_T := pm_ws (fun k hk => match k, hk with
  | 0, _ => tw_86
  | 1, _ => tw_88
  | 2, _ => tw_90
  | 3, _ => tw_92
  | k + 4, h => absurd h (by omega))
theorem tw_145 : u_lay RX7 TX7 0 ∈ pm_T := pm_in (List.mem_append_right _ (List.mem_of_getElem? (i := 145) (by decide +kernel))) rfl
theorem tw_147 : u_lay RX7 TX7 1 ∈ pm_T := pm_in (List.mem_append_right _ (List.mem_of_getElem? (i := 147) (by decide +kernel))) rfl
theorem tw_149 : u_lay RX7 TX7 2 ∈ pm_T := pm_in (List.mem_append_right _ (List.mem_of_getElem? (i := 149) (by decide +kernel))) rfl
theorem tw_151 : u_lay RX7 TX7 3 ∈ pm_T := pm_in (List.mem_append_right _ (List.mem_of_getElem? (i := 151) (by decide +kernel))) rfl
theorem tw_153 : u_lay RX7 TX7 4 ∈ pm_T := pm_in (List.mem_append_right _ (List.mem_of_getElem? (i := 153) (by decide +kernel))) rfl
theorem tw_155 : u_lay RX7 TX7 5 ∈ pm_T := pm_in (List.mem_append_right _ (List.mem_of_getElem? (i := 155) (by decide +kernel))) rfl
theorem in_X7 : ∀ w ∈ u_ws RX7 TX7 6, w ∈ pm_T := pm_ws (fun k hk => match k, hk with
  | 0, _ => tw_145
  | 1, _ => tw_147
  | 2, _ => tw_149
  | 3, _ => tw_151
  | 4, _ => tw_153
  | 5, _ => tw_155
  | k + 6, h => absurd h (by omega))
theorem tw_103 : u_lay RX8 TX8 0 ∈ pm_T := pm_in (List.mem_append_right _ (List.mem_of_getElem? (i := 103) (by decide +kernel))) rfl
theorem tw_105 : u_lay RX8 TX8 1 ∈ pm_T := pm_in (List.mem_append_right _ (List.mem_of_getElem? (i := 105) (by decide +kernel))) rfl
theorem tw_107 : u_lay RX8 TX8 2 ∈ pm_T := pm_in (List.mem_append_right _ (List.mem_of_getElem? (i := 107) (by decide +kernel))) rfl
theorem tw_109 : u_lay RX8 TX8 3 ∈ pm_T := pm_in (List.mem_append_right _ (List.mem_of_getElem? (i := 109) (by decide +kernel))) rfl
theorem in_X8 : ∀ w ∈ u_ws RX8 TX8 4, w ∈ pm_T := pm_ws (fun k hk => match k, hk with
  | 0, _ => tw_103
  | 1, _ => tw_105
  | 2, _ => tw_107
  | 3, _ => tw_109
  | k + 4, h => absurd h (by omega))
theorem tw_192 : u_lay RX9 TX9 0 ∈ pm_T := pm_in (List.mem_append_right _ (List.mem_of_getElem? (i := 192) (by decide +kernel))) rfl
theorem tw_194 : u_lay RX9 TX9 1 ∈ pm_T := pm_in (List.mem_append_right _ (List.mem_of_getElem? (i := 194) (by decide +kernel))) rfl
theorem tw_196 : u_lay RX9 TX9 2 ∈ pm_T := pm_in (List.mem_append_right _ (List.mem_of_getElem? (i := 196) (by decide +kernel))) rfl
theorem tw_198 : u_lay RX9 TX9 3 ∈ pm_T := pm_in (List.mem_append_right _ (List.mem_of_getElem? (i := 198) (by decide +kernel))) rfl
theorem tw_200 : u_lay RX9 TX9 4 ∈ pm_T := pm_in (List.mem_append_right _ (List.mem_of_getElem? (i := 200) (by decide +kernel))) rfl
theorem tw_202 : u_lay RX9 TX9 5 ∈ pm_T := pm_in (List.mem_append_right _ (List.mem_of_getElem? (i := 202) (by decide +kernel))) rfl
theorem tw_204 : u_lay RX9 TX9 6 ∈ pm_T := pm_in (List.mem_append_right _ (List.mem_of_getElem? (i := 204) (by decide +kernel))) rfl
theorem tw_206 : u_lay RX9 TX9 7 ∈ pm_T := pm_in (List.mem_append_right _ (List.mem_of_getElem? (i := 206) (by decide +kernel))) rfl
theorem in_X9 : ∀ w ∈ u_ws RX9 TX9 8, w ∈ pm_T := pm_ws (fun k hk => match k, hk with
  | 0, _ => tw_192
  | 1, _ => tw_194
  | 2, _ => tw_196
  | 3, _ => tw_198
  | 4, _ => tw_200
  | 5, _ => tw_202
  | 6, _ => tw_204
  | 7, _ => tw_206
  | k + 8, h => absurd h (by omega))
theorem tw_717 : u_lay RX10 TX10 0 ∈ pm_T := pm_in (List.mem_append_right _ (List.mem_of_getElem? (i := 717) (by decide +kernel))) rfl
theorem tw_719 : u_lay RX10 TX10 1 ∈ pm_T := pm_in (List.mem_append_right _ (List.mem_of_getElem? (i := 719) (by decide +kernel))) rfl
theorem tw_721 : u_lay RX10 TX10 2 ∈ pm_T := pm_in (List.mem_append_right _ (List.mem_of_getElem? (i := 721) (by decide +kernel))) rfl
theorem tw_723 : u_lay RX10 TX10 3 ∈ pm_T := pm_in (List.mem_append_right _ (List.mem_of_getElem? (i := 723) (by decide +kernel))) rfl
theorem tw_725 : u_lay RX10 TX10 4 ∈ pm_T := pm_in (List.mem_append_right _ (List.mem_of_getElem? (i := 725) (by decide +kernel))) rfl
theorem tw_727 : u_lay RX10 TX10 5 ∈ pm_T := pm_in (List.mem_append_right _ (List.mem_of_getElem? (i := 727) (by decide +kernel))) rfl
theorem tw_729 : u_lay RX10 TX10 6 ∈ pm_T := pm_in (List.mem_append_right _ (List.mem_of_getElem? (i := 729) (by decide +kernel))) rfl
theorem tw_731 : u_lay RX10 TX10 7 ∈ pm_T := pm_in (List.mem_append_right _ (List.mem_of_getElem? (i := 731) (by decide +kernel))) rfl
theorem tw_733 : u_lay RX10 TX10 8 ∈ pm_T := pm_in (List.mem_append_right _ (List.mem_of_getElem? (i := 733) (by decide +kernel))) rfl
theorem tw_735 : u_lay RX10 TX10 9 ∈ pm_T := pm_in (List.mem_append_right _ (List.mem_of_getElem? (i := 735) (by decide +kernel))) rfl
theorem tw_737 : u_lay RX10 TX10 10 ∈ pm_T := pm_in (List.mem_append_right _ (List.mem_of_getElem? (i := 737) (by decide +kernel))) rfl
theorem tw_739 : u_lay RX10 TX10 11 ∈ pm_T := pm_in (List.mem_append_right _ (List.mem_of_getElem? (i := 739) (by decide +kernel))) rfl
theorem tw_741 : u_lay RX10 TX10 12 ∈ pm_T := pm_in (List.mem_append_right _ (List.mem_of_getElem? (i := 741) (by decide +kernel))) rfl
theorem tw_743 : u_lay RX10 TX10 13 ∈ pm_T := pm_in (List.mem_append_right _ (List.mem_of_getElem? (i := 743) (by decide +kernel))) rfl
theorem tw_745 : u_lay RX10 TX10 14 ∈ pm_T := pm_in (List.mem_append_right _ (List.mem_of_getElem? (i := 745) (by decide +kernel))) rfl
theorem tw_747 : u_lay RX10 TX10 15 ∈ pm_T := pm_in (List.mem_append_right _ (List.mem_of_getElem? (i := 747) (by decide +kernel))) rfl
theorem tw_749 : u_lay RX10 TX10 16 ∈ pm_T := pm_in (List.mem_append_right _ (List.mem_of_getElem? (i := 749) (by decide +kernel))) rfl
theorem tw_751 : u_lay RX10 TX10 17 ∈ pm_T := pm_in (List.mem_append_right _ (List.mem_of_getElem? (i := 751) (by decide +kernel))) rfl
theorem tw_753 : u_lay RX10 TX10 18 ∈ pm_T := pm_in (List.mem_append_right _ (List.mem_of_getElem? (i := 753) (by decide +kernel))) rfl
theorem tw_755 : u_lay RX10 TX10 19 ∈ pm_T := pm_in (List.mem_append_right _ (List.mem_of_getElem? (i := 755) (by decide +kernel))) rfl
theorem tw_757 : u_lay RX10 TX10 20 ∈ pm_T := pm_in (List.mem_append_right _ (List.mem_of_getElem? (i := 757) (by decide +kernel))) rfl
theorem tw_759 : u_lay RX10 TX10 21 ∈ pm_T := pm_in (List.mem_append_right _ (List.mem_of_getElem? (i := 759) (by decide +kernel))) rfl
theorem tw_761 : u_lay RX10 TX10 22 ∈ pm_T := pm_in (List.mem_append_right _ (List.mem_of_getElem? (i := 761) (by decide +kernel))) rfl
theorem tw_763 : u_lay RX10 TX10 23 ∈ pm_T := pm_in (List.mem_append_right _ (List.mem_of_getElem? (i := 763) (by decide +kernel))) rfl
theorem in_X10 : ∀ w ∈ u_ws RX10 TX10 24, w ∈ pm_T := pm_ws (fun k hk => match k, hk with
  | 0, _ => tw_717
  | 1, _ => tw_719
  | 2, _ => tw_721
  | 3, _ => tw_723
  | 4, _ => tw_725
  | 5, _ => tw_727
  | 6, _ => tw_729
  | 7, _ => tw_731
  | 8, _ => tw_733
  | 9, _ => tw_735
  | 10, _ => tw_737
  | 11, _ => tw_739
  | 12, _ => tw_741
  | 13, _ => tw_743
  | 14, _ => tw_745
  | 15, _ => tw_747
  | 16, _ => tw_749
  | 17, _ => tw_751
  | 18, _ => tw_753
  | 19, _ => tw_755
  | 20, _ => tw_757
  | 21, _ => tw_759
  | 22, _ => tw_761
  | 23, _ => tw_763
  | k + 24, h => absurd h (by omega))
theorem tw_612 : Cond.code yX0_power cX0_power 5 (some .long) ∈ pm_T := pm_in (List.mem_append_right _ (List.mem_of_getElem? (i := 612) (by decide +kernel))) rfl
theorem tw_15 : Cond.initialized RX0 ∈ pm_T := pm_in (List.mem_append_right _ (List.mem_of_getElem? (i := 15) (by decide +kernel))) rfl
theorem my_X0_power : pm_Y yX0_power cX0_power 5 (some .long) 2 := ⟨tw_612, tw_15, ⟨by decide, by decide⟩, by decide +kernel⟩
theorem tw_609 : Cond.code yX0_waysOfJust cX0_waysOfJust 2 (some .long) ∈ pm_T := pm_in (List.mem_append_right _ (List.mem_of_getElem? (i := 609) (by decide +kernel))) rfl
theorem my_X0_waysOfJust : pm_Y yX0_waysOfJust cX0_waysOfJust 2 (some .long) 2 := ⟨tw_609, tw_15, ⟨by decide, by decide⟩, by decide +kernel⟩
theorem tw_610 : Cond.methodLink RX0 7 yX0_power ∈ pm_T := pm_in (List.mem_append_right _ (List.mem_of_getElem? (i := 610) (by decide +kernel))) rfl
theorem tw_611 : Cond.static yX0_power ∈ pm_T := pm_in (List.mem_append_right _ (List.mem_of_getElem? (i := 611) (by decide +kernel))) rfl
theorem sl_X0_7 : pm_LS RX0 7 yX0_power := ⟨Or.inl tw_610, tw_611⟩
theorem tw_615 : Cond.code yX0_sumOfStrongest cX0_sumOfStrongest 5 (some .long) ∈ pm_T := pm_in (List.mem_append_right _ (List.mem_of_getElem? (i := 615) (by decide +kernel))) rfl
theorem my_X0_sumOfStrongest : pm_Y yX0_sumOfStrongest cX0_sumOfStrongest 5 (some .long) 2 := ⟨tw_615, tw_15, ⟨by decide, by decide⟩, by decide +kernel⟩
theorem tw_616 : Cond.methodLink RX0 13 yX0_waysOfJust ∈ pm_T := pm_in (List.mem_append_right _ (List.mem_of_getElem? (i := 616) (by decide +kernel))) rfl
theorem tw_608 : Cond.static yX0_waysOfJust ∈ pm_T := pm_in (List.mem_append_right _ (List.mem_of_getElem? (i := 608) (by decide +kernel))) rfl
theorem sl_X0_13 : pm_LS RX0 13 yX0_waysOfJust := ⟨Or.inl tw_616, tw_608⟩
theorem tw_620 : Cond.code yX0_partInLowestTerms cX0_partInLowestTerms 9 (some .long) ∈ pm_T := pm_in (List.mem_append_right _ (List.mem_of_getElem? (i := 620) (by decide +kernel))) rfl
theorem my_X0_partInLowestTerms : pm_Y yX0_partInLowestTerms cX0_partInLowestTerms 9 (some .long) 3 := ⟨tw_620, tw_15, ⟨by decide, by decide⟩, by decide +kernel⟩
theorem tw_621 : Cond.methodLink RX0 16 yX0_greatestCommon ∈ pm_T := pm_in (List.mem_append_right _ (List.mem_of_getElem? (i := 621) (by decide +kernel))) rfl
theorem tw_622 : Cond.static yX0_greatestCommon ∈ pm_T := pm_in (List.mem_append_right _ (List.mem_of_getElem? (i := 622) (by decide +kernel))) rfl
theorem sl_X0_16 : pm_LS RX0 16 yX0_greatestCommon := ⟨Or.inl tw_621, tw_622⟩
theorem tw_623 : Cond.code yX0_greatestCommon cX0_greatestCommon 11 (some .long) ∈ pm_T := pm_in (List.mem_append_right _ (List.mem_of_getElem? (i := 623) (by decide +kernel))) rfl
theorem my_X0_greatestCommon : pm_Y yX0_greatestCommon cX0_greatestCommon 11 (some .long) 2 := ⟨tw_623, tw_15, ⟨by decide, by decide⟩, by decide +kernel⟩
theorem tw_61 : Cond.code yX1_init cX1_init 2 none ∈ pm_T := pm_in (List.mem_append_right _ (List.mem_of_getElem? (i := 61) (by decide +kernel))) rfl
theorem tw_5 : Cond.initialized RX1 ∈ pm_T := pm_in (List.mem_append_right _ (List.mem_of_getElem? (i := 5) (by decide +kernel))) rfl
theorem my_X1_init : pm_Y yX1_init cX1_init 2 none 0 := ⟨tw_61, tw_5, ⟨by decide, by decide⟩, by decide +kernel⟩
theorem tw_62 : Cond.methodLink RX1 3 objectInit ∈ pm_T := pm_in (List.mem_append_right _ (List.mem_of_getElem? (i := 62) (by decide +kernel))) rfl
theorem tw_22 : Cond.instanceMethod objectInit ∈ pm_T := pm_in (List.mem_append_right _ (List.mem_of_getElem? (i := 22) (by decide +kernel))) rfl
theorem tw_23 : Cond.code objectInit ⟨#[0xb1]⟩ 1 none ∈ pm_T := pm_in (List.mem_append_right _ (List.mem_of_getElem? (i := 23) (by decide +kernel))) rfl
theorem oi_X1_3 : Cond.methodLink RX1 3 objectInit ∈ pm_T ∧ Cond.instanceMethod objectInit ∈ pm_T ∧ Cond.code objectInit ⟨#[0xb1]⟩ 1 none ∈ pm_T := ⟨tw_62, tw_22, tw_23⟩
theorem tw_63 : Cond.fieldLink RX1 9 (TX1 0).1 (TX1 0).2.1 (TX1 0).2.2.1 ∈ pm_T := pm_in (List.mem_append_right _ (List.mem_of_getElem? (i := 63) (by decide +kernel))) rfl
theorem fp_X1_9 : pm_FP RX1 9 0 0 true (.array .int) := ⟨RX1, TX1, 2, tyX1, in_X1, rfl, by decide, tw_63, tyX1_ok, nmX1, rfl, by decide +kernel, fun _ => rfl⟩
theorem tw_64 : Cond.fieldLink RX1 15 (TX1 1).1 (TX1 1).2.1 (TX1 1).2.2.1 ∈ pm_T := pm_in (List.mem_append_right _ (List.mem_of_getElem? (i := 64) (by decide +kernel))) rfl
theorem fp_X1_15 : pm_FP RX1 15 0 1 true (.array .int) := ⟨RX1, TX1, 2, tyX1, in_X1, rfl, by decide, tw_64, tyX1_ok, nmX1, rfl, by decide +kernel, fun _ => rfl⟩
theorem fl_X1_9 : pm_FL RX1 9 0 0 := ⟨RX1, TX1, 2, in_X1, rfl, by decide, Or.inl tw_63⟩
theorem fl_X1_15 : pm_FL RX1 15 0 1 := ⟨RX1, TX1, 2, in_X1, rfl, by decide, Or.inl tw_64⟩
theorem tw_656 : Cond.code yX1_copyFrom cX1_copyFrom 2 none ∈ pm_T := pm_in (List.mem_append_right _ (List.mem_of_getElem? (i := 656) (by decide +kernel))) rfl
theorem my_X1_copyFrom : pm_Y yX1_copyFrom cX1_copyFrom 2 none 1 := ⟨tw_656, tw_5, ⟨by decide, by decide⟩, by decide +kernel⟩
theorem tw_657 : Cond.methodLink RX1 18 arraycopyName ∈ pm_T := pm_in (List.mem_append_right _ (List.mem_of_getElem? (i := 657) (by decide +kernel))) rfl
theorem tw_338 : Cond.native arraycopyName ∈ pm_T := pm_in (List.mem_append_right _ (List.mem_of_getElem? (i := 338) (by decide +kernel))) rfl
theorem tw_337 : Cond.static arraycopyName ∈ pm_T := pm_in (List.mem_append_right _ (List.mem_of_getElem? (i := 337) (by decide +kernel))) rfl
theorem tw_12 : Cond.initialized "java/lang/System" ∈ pm_T := pm_in (List.mem_append_right _ (List.mem_of_getElem? (i := 12) (by decide +kernel))) rfl
theorem ac_X1_18 : Cond.methodLink RX1 18 arraycopyName ∈ pm_T ∧ Cond.native arraycopyName ∈ pm_T ∧ Cond.static arraycopyName ∈ pm_T ∧ Cond.initialized "java/lang/System" ∈ pm_T := ⟨tw_657, tw_338, tw_337, tw_12⟩
theorem tw_269 : Cond.code yX1_isRow cX1_isRow 4 (some .boolean) ∈ pm_T := pm_in (List.mem_append_right _ (List.mem_of_getElem? (i := 269) (by decide +kernel))) rfl
theorem my_X1_isRow : pm_Y yX1_isRow cX1_isRow 4 (some .boolean) 1 := ⟨tw_269, tw_5, ⟨by decide, by decide⟩, by decide +kernel⟩
theorem tw_273 : Cond.code yX1_rowOf cX1_rowOf 3 (some .int) ∈ pm_T := pm_in (List.mem_append_right _ (List.mem_of_getElem? (i := 273) (by decide +kernel))) rfl
theorem my_X1_rowOf : pm_Y yX1_rowOf cX1_rowOf 3 (some .int) 2 := ⟨tw_273, tw_5, ⟨by decide, by decide⟩, by decide +kernel⟩
theorem tw_274 : Cond.methodLinkNest RX1 24 yX9_isOne "PaleMoor" ∈ pm_T := pm_in (List.mem_append_right _ (List.mem_of_getElem? (i := 274) (by decide +kernel))) rfl
theorem tw_262 : Cond.static yX9_isOne ∈ pm_T := pm_in (List.mem_append_right _ (List.mem_of_getElem? (i := 262) (by decide +kernel))) rfl
theorem sl_X1_24 : pm_LS RX1 24 yX9_isOne := ⟨Or.inr ⟨_, tw_274⟩, tw_262⟩
theorem tw_278 : Cond.code yX1_setRow cX1_setRow 6 none ∈ pm_T := pm_in (List.mem_append_right _ (List.mem_of_getElem? (i := 278) (by decide +kernel))) rfl
theorem my_X1_setRow : pm_Y yX1_setRow cX1_setRow 6 none 3 := ⟨tw_278, tw_5, ⟨by decide, by decide⟩, by decide +kernel⟩
theorem tw_279 : Cond.methodLink RX1 28 yX1_isRow ∈ pm_T := pm_in (List.mem_append_right _ (List.mem_of_getElem? (i := 279) (by decide +kernel))) rfl
theorem tw_268 : Cond.static yX1_isRow ∈ pm_T := pm_in (List.mem_append_right _ (List.mem_of_getElem? (i := 268) (by decide +kernel))) rfl
theorem sl_X1_28 : pm_LS RX1 28 yX1_isRow := ⟨Or.inl tw_279, tw_268⟩
theorem tw_280 : Cond.methodLink RX1 32 yX1_setRank ∈ pm_T := pm_in (List.mem_append_right _ (List.mem_of_getElem? (i := 280) (by decide +kernel))) rfl
theorem tw_282 : Cond.instanceMethod yX1_setRank ∈ pm_T := pm_in (List.mem_append_right _ (List.mem_of_getElem? (i := 282) (by decide +kernel))) rfl
theorem ts_1 : Cond.selects RX1 yX1_setRank yX1_setRank ∈ pm_T := pm_in (List.mem_append_left _ (List.mem_of_getElem? (i := 1) (by decide +kernel))) rfl
theorem vl_X1_32 : pm_LV RX1 32 yX1_setRank := ⟨tw_280, tw_282, ts_1⟩
theorem tw_283 : Cond.code yX1_setRank cX1_setRank 5 none ∈ pm_T := pm_in (List.mem_append_right _ (List.mem_of_getElem? (i := 283) (by decide +kernel))) rfl
theorem my_X1_setRank : pm_Y yX1_setRank cX1_setRank 5 none 4 := ⟨tw_283, tw_5, ⟨by decide, by decide⟩, by decide +kernel⟩
theorem tw_532 : Cond.code yX1_rankOf cX1_rankOf 4 (some .int) ∈ pm_T := pm_in (List.mem_append_right _ (List.mem_of_getElem? (i := 532) (by decide +kernel))) rfl
theorem my_X1_rankOf : pm_Y yX1_rankOf cX1_rankOf 4 (some .int) 3 := ⟨tw_532, tw_5, ⟨by decide, by decide⟩, by decide +kernel⟩
theorem tw_535 : Cond.code yX1_partnerIn cX1_partnerIn 4 (some .int) ∈ pm_T := pm_in (List.mem_append_right _ (List.mem_of_getElem? (i := 535) (by decide +kernel))) rfl
theorem my_X1_partnerIn : pm_Y yX1_partnerIn cX1_partnerIn 4 (some .int) 3 := ⟨tw_535, tw_5, ⟨by decide, by decide⟩, by decide +kernel⟩
theorem tw_522 : Cond.methodLink RX1 36 yX1_chosenBy ∈ pm_T := pm_in (List.mem_append_right _ (List.mem_of_getElem? (i := 522) (by decide +kernel))) rfl
theorem tw_523 : Cond.static yX1_chosenBy ∈ pm_T := pm_in (List.mem_append_right _ (List.mem_of_getElem? (i := 523) (by decide +kernel))) rfl
theorem sl_X1_36 : pm_LS RX1 36 yX1_chosenBy := ⟨Or.inl tw_522, tw_523⟩
theorem tw_524 : Cond.code yX1_chosenBy cX1_chosenBy 2 (some .int) ∈ pm_T := pm_in (List.mem_append_right _ (List.mem_of_getElem? (i := 524) (by decide +kernel))) rfl
theorem my_X1_chosenBy : pm_Y yX1_chosenBy cX1_chosenBy 2 (some .int) 2 := ⟨tw_524, tw_5, ⟨by decide, by decide⟩, by decide +kernel⟩
theorem tw_514 : Cond.code yX1_countSteady cX1_countSteady 3 (some .int) ∈ pm_T := pm_in (List.mem_append_right _ (List.mem_of_getElem? (i := 514) (by decide +kernel))) rfl
theorem my_X1_countSteady : pm_Y yX1_countSteady cX1_countSteady 3 (some .int) 0 := ⟨tw_514, tw_5, ⟨by decide, by decide⟩, by decide +kernel⟩
theorem tw_515 : Cond.methodLink RX1 40 yX1_isSteady ∈ pm_T := pm_in (List.mem_append_right _ (List.mem_of_getElem? (i := 515) (by decide +kernel))) rfl
theorem tw_517 : Cond.instanceMethod yX1_isSteady ∈ pm_T := pm_in (List.mem_append_right _ (List.mem_of_getElem? (i := 517) (by decide +kernel))) rfl
theorem ts_16 : Cond.selects RX1 yX1_isSteady yX1_isSteady ∈ pm_T := pm_in (List.mem_append_left _ (List.mem_of_getElem? (i := 16) (by decide +kernel))) rfl
theorem vl_X1_40 : pm_LV RX1 40 yX1_isSteady := ⟨tw_515, tw_517, ts_16⟩
theorem tw_543 : Cond.code yX1_bestSteady cX1_bestSteady 5 (some .int) ∈ pm_T := pm_in (List.mem_append_right _ (List.mem_of_getElem? (i := 543) (by decide +kernel))) rfl
theorem my_X1_bestSteady : pm_Y yX1_bestSteady cX1_bestSteady 5 (some .int) 1 := ⟨tw_543, tw_5, ⟨by decide, by decide⟩, by decide +kernel⟩
theorem tw_544 : Cond.methodLink RX1 43 yX1_sumOfRanks ∈ pm_T := pm_in (List.mem_append_right _ (List.mem_of_getElem? (i := 544) (by decide +kernel))) rfl
theorem tw_546 : Cond.instanceMethod yX1_sumOfRanks ∈ pm_T := pm_in (List.mem_append_right _ (List.mem_of_getElem? (i := 546) (by decide +kernel))) rfl
theorem ts_19 : Cond.selects RX1 yX1_sumOfRanks yX1_sumOfRanks ∈ pm_T := pm_in (List.mem_append_left _ (List.mem_of_getElem? (i := 19) (by decide +kernel))) rfl
theorem vl_X1_43 : pm_LV RX1 43 yX1_sumOfRanks := ⟨tw_544, tw_546, ts_19⟩
theorem tw_547 : Cond.code yX1_sumOfRanks cX1_sumOfRanks 5 (some .int) ∈ pm_T := pm_in (List.mem_append_right _ (List.mem_of_getElem? (i := 547) (by decide +kernel))) rfl
theorem my_X1_sumOfRanks : pm_Y yX1_sumOfRanks cX1_sumOfRanks 5 (some .int) 2 := ⟨tw_547, tw_5, ⟨by decide, by decide⟩, by decide +kernel⟩
theorem tw_533 : Cond.methodLink RX1 46 yX1_partnerIn ∈ pm_T := pm_in (List.mem_append_right _ (List.mem_of_getElem? (i := 533) (by decide +kernel))) rfl
theorem tw_534 : Cond.static yX1_partnerIn ∈ pm_T := pm_in (List.mem_append_right _ (List.mem_of_getElem? (i := 534) (by decide +kernel))) rfl
theorem sl_X1_46 : pm_LS RX1 46 yX1_partnerIn := ⟨Or.inl tw_533, tw_534⟩
theorem tw_529 : Cond.methodLink RX1 50 yX1_rankOf ∈ pm_T := pm_in (List.mem_append_right _ (List.mem_of_getElem? (i := 529) (by decide +kernel))) rfl
theorem tw_531 : Cond.instanceMethod yX1_rankOf ∈ pm_T := pm_in (List.mem_append_right _ (List.mem_of_getElem? (i := 531) (by decide +kernel))) rfl
theorem ts_18 : Cond.selects RX1 yX1_rankOf yX1_rankOf ∈ pm_T := pm_in (List.mem_append_left _ (List.mem_of_getElem? (i := 18) (by decide +kernel))) rfl
theorem vl_X1_50 : pm_LV RX1 50 yX1_rankOf := ⟨tw_529, tw_531, ts_18⟩
theorem tw_518 : Cond.code yX1_isSteady cX1_isSteady 4 (some .boolean) ∈ pm_T := pm_in (List.mem_append_right _ (List.mem_of_getElem? (i := 518) (by decide +kernel))) rfl
theorem my_X1_isSteady : pm_Y yX1_isSteady cX1_isSteady 4 (some .boolean) 1 := ⟨tw_518, tw_5, ⟨by decide, by decide⟩, by decide +kernel⟩
theorem tw_519 : Cond.methodLink RX1 53 yX1_hasEachOnce ∈ pm_T := pm_in (List.mem_append_right _ (List.mem_of_getElem? (i := 519) (by decide +kernel))) rfl
theorem tw_520 : Cond.static yX1_hasEachOnce ∈ pm_T := pm_in (List.mem_append_right _ (List.mem_of_getElem? (i := 520) (by decide +kernel))) rfl
theorem sl_X1_53 : pm_LS RX1 53 yX1_hasEachOnce := ⟨Or.inl tw_519, tw_520⟩
theorem tw_525 : Cond.methodLink RX1 56 yX1_prefers ∈ pm_T := pm_in (List.mem_append_right _ (List.mem_of_getElem? (i := 525) (by decide +kernel))) rfl
theorem tw_527 : Cond.instanceMethod yX1_prefers ∈ pm_T := pm_in (List.mem_append_right _ (List.mem_of_getElem? (i := 527) (by decide +kernel))) rfl
theorem ts_17 : Cond.selects RX1 yX1_prefers yX1_prefers ∈ pm_T := pm_in (List.mem_append_left _ (List.mem_of_getElem? (i := 17) (by decide +kernel))) rfl
theorem vl_X1_56 : pm_LV RX1 56 yX1_prefers := ⟨tw_525, tw_527, ts_17⟩
theorem tw_521 : Cond.code yX1_hasEachOnce cX1_hasEachOnce 3 (some .boolean) ∈ pm_T := pm_in (List.mem_append_right _ (List.mem_of_getElem? (i := 521) (by decide +kernel))) rfl
theorem my_X1_hasEachOnce : pm_Y yX1_hasEachOnce cX1_hasEachOnce 3 (some .boolean) 1 := ⟨tw_521, tw_5, ⟨by decide, by decide⟩, by decide +kernel⟩
theorem tw_528 : Cond.code yX1_prefers cX1_prefers 5 (some .boolean) ∈ pm_T := pm_in (List.mem_append_right _ (List.mem_of_getElem? (i := 528) (by decide +kernel))) rfl
theorem my_X1_prefers : pm_Y yX1_prefers cX1_prefers 5 (some .boolean) 4 := ⟨tw_528, tw_5, ⟨by decide, by decide⟩, by decide +kernel⟩
theorem tw_34 : Cond.code yX2_init cX2_init 2 none ∈ pm_T := pm_in (List.mem_append_right _ (List.mem_of_getElem? (i := 34) (by decide +kernel))) rfl
theorem tw_3 : Cond.initialized RX2 ∈ pm_T := pm_in (List.mem_append_right _ (List.mem_of_getElem? (i := 3) (by decide +kernel))) rfl
theorem my_X2_init : pm_Y yX2_init cX2_init 2 none 0 := ⟨tw_34, tw_3, ⟨by decide, by decide⟩, by decide +kernel⟩
theorem tw_35 : Cond.methodLink RX2 3 objectInit ∈ pm_T := pm_in (List.mem_append_right _ (List.mem_of_getElem? (i := 35) (by decide +kernel))) rfl
theorem oi_X2_3 : Cond.methodLink RX2 3 objectInit ∈ pm_T ∧ Cond.instanceMethod objectInit ∈ pm_T ∧ Cond.code objectInit ⟨#[0xb1]⟩ 1 none ∈ pm_T := ⟨tw_35, tw_22, tw_23⟩
theorem tw_39 : Cond.fieldLink RX2 9 (TX2 0).1 (TX2 0).2.1 (TX2 0).2.2.1 ∈ pm_T := pm_in (List.mem_append_right _ (List.mem_of_getElem? (i := 39) (by decide +kernel))) rfl
theorem fp_X2_9 : pm_FP RX2 9 1 0 true (.array .int) := ⟨RX2, TX2, 5, tyX2, in_X2, rfl, by decide, tw_39, tyX2_ok, nmX2, rfl, by decide +kernel, fun _ => rfl⟩
theorem tw_40 : Cond.fieldLink RX2 15 (TX2 1).1 (TX2 1).2.1 (TX2 1).2.2.1 ∈ pm_T := pm_in (List.mem_append_right _ (List.mem_of_getElem? (i := 40) (by decide +kernel))) rfl
theorem fp_X2_15 : pm_FP RX2 15 1 1 true (.array .int) := ⟨RX2, TX2, 5, tyX2, in_X2, rfl, by decide, tw_40, tyX2_ok, nmX2, rfl, by decide +kernel, fun _ => rfl⟩
theorem tw_41 : Cond.fieldLink RX2 18 (TX2 2).1 (TX2 2).2.1 (TX2 2).2.2.1 ∈ pm_T := pm_in (List.mem_append_right _ (List.mem_of_getElem? (i := 41) (by decide +kernel))) rfl
theorem fp_X2_18 : pm_FP RX2 18 1 2 true (.array .int) := ⟨RX2, TX2, 5, tyX2, in_X2, rfl, by decide, tw_41, tyX2_ok, nmX2, rfl, by decide +kernel, fun _ => rfl⟩
theorem tw_42 : Cond.fieldLink RX2 21 (TX2 3).1 (TX2 3).2.1 (TX2 3).2.2.1 ∈ pm_T := pm_in (List.mem_append_right _ (List.mem_of_getElem? (i := 42) (by decide +kernel))) rfl
theorem fp_X2_21 : pm_FP RX2 21 1 3 true (.array .int) := ⟨RX2, TX2, 5, tyX2, in_X2, rfl, by decide, tw_42, tyX2_ok, nmX2, rfl, by decide +kernel, fun _ => rfl⟩
theorem tw_43 : Cond.fieldLink RX2 24 (TX2 4).1 (TX2 4).2.1 (TX2 4).2.2.1 ∈ pm_T := pm_in (List.mem_append_right _ (List.mem_of_getElem? (i := 43) (by decide +kernel))) rfl
theorem fp_X2_24 : pm_FP RX2 24 1 4 false .int := ⟨RX2, TX2, 5, tyX2, in_X2, rfl, by decide, tw_43, tyX2_ok, nmX2, rfl, by decide +kernel, fun h => by cases h⟩
theorem fl_X2_9 : pm_FL RX2 9 1 0 := ⟨RX2, TX2, 5, in_X2, rfl, by decide, Or.inl tw_39⟩
theorem tw_36 : Cond.methodLink RX2 28 yJ7_fill_53178 ∈ pm_T := pm_in (List.mem_append_right _ (List.mem_of_getElem? (i := 36) (by decide +kernel))) rfl
theorem tw_37 : Cond.static yJ7_fill_53178 ∈ pm_T := pm_in (List.mem_append_right _ (List.mem_of_getElem? (i := 37) (by decide +kernel))) rfl
theorem sl_X2_28 : pm_LS RX2 28 yJ7_fill_53178 := ⟨Or.inl tw_36, tw_37⟩
theorem fl_X2_21 : pm_FL RX2 21 1 3 := ⟨RX2, TX2, 5, in_X2, rfl, by decide, Or.inl tw_42⟩
theorem fl_X2_18 : pm_FL RX2 18 1 2 := ⟨RX2, TX2, 5, in_X2, rfl, by decide, Or.inl tw_41⟩
theorem tw_335 : Cond.code yX2_copyFrom cX2_copyFrom 2 none ∈ pm_T := pm_in (List.mem_append_right _ (List.mem_of_getElem? (i := 335) (by decide +kernel))) rfl
theorem my_X2_copyFrom : pm_Y yX2_copyFrom cX2_copyFrom 2 none 1 := ⟨tw_335, tw_3, ⟨by decide, by decide⟩, by decide +kernel⟩
theorem tw_336 : Cond.methodLink RX2 34 arraycopyName ∈ pm_T := pm_in (List.mem_append_right _ (List.mem_of_getElem? (i := 336) (by decide +kernel))) rfl
theorem ac_X2_34 : Cond.methodLink RX2 34 arraycopyName ∈ pm_T ∧ Cond.native arraycopyName ∈ pm_T ∧ Cond.static arraycopyName ∈ pm_T ∧ Cond.initialized "java/lang/System" ∈ pm_T := ⟨tw_336, tw_338, tw_337, tw_12⟩
theorem fl_X2_15 : pm_FL RX2 15 1 1 := ⟨RX2, TX2, 5, in_X2, rfl, by decide, Or.inl tw_40⟩
theorem fl_X2_24 : pm_FL RX2 24 1 4 := ⟨RX2, TX2, 5, in_X2, rfl, by decide, Or.inl tw_43⟩
theorem tw_380 : Cond.code yX2_strengthBetween cX2_strengthBetween 3 (some .int) ∈ pm_T := pm_in (List.mem_append_right _ (List.mem_of_getElem? (i := 380) (by decide +kernel))) rfl
theorem my_X2_strengthBetween : pm_Y yX2_strengthBetween cX2_strengthBetween 3 (some .int) 2 := ⟨tw_380, tw_3, ⟨by decide, by decide⟩, by decide +kernel⟩
theorem tw_240 : Cond.methodLinkNest RX2 40 yX9_isFarm "PaleMoor" ∈ pm_T := pm_in (List.mem_append_right _ (List.mem_of_getElem? (i := 240) (by decide +kernel))) rfl
theorem tw_217 : Cond.static yX9_isFarm ∈ pm_T := pm_in (List.mem_append_right _ (List.mem_of_getElem? (i := 217) (by decide +kernel))) rfl
theorem sl_X2_40 : pm_LS RX2 40 yX9_isFarm := ⟨Or.inr ⟨_, tw_240⟩, tw_217⟩
theorem tw_222 : Cond.code yX2_setStrength cX2_setStrength 4 none ∈ pm_T := pm_in (List.mem_append_right _ (List.mem_of_getElem? (i := 222) (by decide +kernel))) rfl
theorem my_X2_setStrength : pm_Y yX2_setStrength cX2_setStrength 4 none 3 := ⟨tw_222, tw_3, ⟨by decide, by decide⟩, by decide +kernel⟩
theorem tw_223 : Cond.methodLinkNest RX2 44 yX9_areTwoFarms "PaleMoor" ∈ pm_T := pm_in (List.mem_append_right _ (List.mem_of_getElem? (i := 223) (by decide +kernel))) rfl
theorem tw_214 : Cond.static yX9_areTwoFarms ∈ pm_T := pm_in (List.mem_append_right _ (List.mem_of_getElem? (i := 214) (by decide +kernel))) rfl
theorem sl_X2_44 : pm_LS RX2 44 yX9_areTwoFarms := ⟨Or.inr ⟨_, tw_223⟩, tw_214⟩
theorem tw_239 : Cond.code yX2_milesBetween cX2_milesBetween 3 (some .int) ∈ pm_T := pm_in (List.mem_append_right _ (List.mem_of_getElem? (i := 239) (by decide +kernel))) rfl
theorem my_X2_milesBetween : pm_Y yX2_milesBetween cX2_milesBetween 3 (some .int) 2 := ⟨tw_239, tw_3, ⟨by decide, by decide⟩, by decide +kernel⟩
theorem tw_244 : Cond.code yX2_setMiles cX2_setMiles 4 none ∈ pm_T := pm_in (List.mem_append_right _ (List.mem_of_getElem? (i := 244) (by decide +kernel))) rfl
theorem my_X2_setMiles : pm_Y yX2_setMiles cX2_setMiles 4 none 3 := ⟨tw_244, tw_3, ⟨by decide, by decide⟩, by decide +kernel⟩
theorem tw_252 : Cond.code yX2_placeOf cX2_placeOf 2 (some .int) ∈ pm_T := pm_in (List.mem_append_right _ (List.mem_of_getElem? (i := 252) (by decide +kernel))) rfl
theorem my_X2_placeOf : pm_Y yX2_placeOf cX2_placeOf 2 (some .int) 1 := ⟨tw_252, tw_3, ⟨by decide, by decide⟩, by decide +kernel⟩
theorem tw_416 : Cond.code yX2_cowsOf cX2_cowsOf 2 (some .int) ∈ pm_T := pm_in (List.mem_append_right _ (List.mem_of_getElem? (i := 416) (by decide +kernel))) rfl
theorem my_X2_cowsOf : pm_Y yX2_cowsOf cX2_cowsOf 2 (some .int) 1 := ⟨tw_416, tw_3, ⟨by decide, by decide⟩, by decide +kernel⟩
theorem tw_256 : Cond.code yX2_settle cX2_settle 4 none ∈ pm_T := pm_in (List.mem_append_right _ (List.mem_of_getElem? (i := 256) (by decide +kernel))) rfl
theorem my_X2_settle : pm_Y yX2_settle cX2_settle 4 none 3 := ⟨tw_256, tw_3, ⟨by decide, by decide⟩, by decide +kernel⟩
theorem tw_227 : Cond.code yX2_countPales cX2_countPales 1 (some .int) ∈ pm_T := pm_in (List.mem_append_right _ (List.mem_of_getElem? (i := 227) (by decide +kernel))) rfl
theorem my_X2_countPales : pm_Y yX2_countPales cX2_countPales 1 (some .int) 0 := ⟨tw_227, tw_3, ⟨by decide, by decide⟩, by decide +kernel⟩
theorem tw_228 : Cond.methodLink RX2 48 yX2_countStrengths ∈ pm_T := pm_in (List.mem_append_right _ (List.mem_of_getElem? (i := 228) (by decide +kernel))) rfl
theorem tw_230 : Cond.instanceMethod yX2_countStrengths ∈ pm_T := pm_in (List.mem_append_right _ (List.mem_of_getElem? (i := 230) (by decide +kernel))) rfl
theorem ts_0 : Cond.selects RX2 yX2_countStrengths yX2_countStrengths ∈ pm_T := pm_in (List.mem_append_left _ (List.mem_of_getElem? (i := 0) (by decide +kernel))) rfl
theorem vl_X2_48 : pm_LV RX2 48 yX2_countStrengths := ⟨tw_228, tw_230, ts_0⟩
theorem tw_459 : Cond.code yX2_countGaps cX2_countGaps 1 (some .int) ∈ pm_T := pm_in (List.mem_append_right _ (List.mem_of_getElem? (i := 459) (by decide +kernel))) rfl
theorem my_X2_countGaps : pm_Y yX2_countGaps cX2_countGaps 1 (some .int) 0 := ⟨tw_459, tw_3, ⟨by decide, by decide⟩, by decide +kernel⟩
theorem tw_231 : Cond.code yX2_countStrengths cX2_countStrengths 7 (some .int) ∈ pm_T := pm_in (List.mem_append_right _ (List.mem_of_getElem? (i := 231) (by decide +kernel))) rfl
theorem my_X2_countStrengths : pm_Y yX2_countStrengths cX2_countStrengths 7 (some .int) 2 := ⟨tw_231, tw_3, ⟨by decide, by decide⟩, by decide +kernel⟩
theorem tw_463 : Cond.code yX2_awayBits cX2_awayBits 3 (some .int) ∈ pm_T := pm_in (List.mem_append_right _ (List.mem_of_getElem? (i := 463) (by decide +kernel))) rfl
theorem my_X2_awayBits : pm_Y yX2_awayBits cX2_awayBits 3 (some .int) 0 := ⟨tw_463, tw_3, ⟨by decide, by decide⟩, by decide +kernel⟩
theorem tw_492 : Cond.code yX2_toBeMended cX2_toBeMended 5 (some .int) ∈ pm_T := pm_in (List.mem_append_right _ (List.mem_of_getElem? (i := 492) (by decide +kernel))) rfl
theorem my_X2_toBeMended : pm_Y yX2_toBeMended cX2_toBeMended 5 (some .int) 1 := ⟨tw_492, tw_3, ⟨by decide, by decide⟩, by decide +kernel⟩
theorem tw_377 : Cond.methodLink RX2 52 yX2_strengthBetween ∈ pm_T := pm_in (List.mem_append_right _ (List.mem_of_getElem? (i := 377) (by decide +kernel))) rfl
theorem tw_378 : Cond.instanceMethod yX2_strengthBetween ∈ pm_T := pm_in (List.mem_append_right _ (List.mem_of_getElem? (i := 378) (by decide +kernel))) rfl
theorem tw_379 : Cond.selects RX2 yX2_strengthBetween yX2_strengthBetween ∈ pm_T := pm_in (List.mem_append_right _ (List.mem_of_getElem? (i := 379) (by decide +kernel))) rfl
theorem vl_X2_52 : pm_LV RX2 52 yX2_strengthBetween := ⟨tw_377, tw_378, tw_379⟩
theorem tw_366 : Cond.code yX2_whyNot cX2_whyNot 4 (some .int) ∈ pm_T := pm_in (List.mem_append_right _ (List.mem_of_getElem? (i := 366) (by decide +kernel))) rfl
theorem my_X2_whyNot : pm_Y yX2_whyNot cX2_whyNot 4 (some .int) 3 := ⟨tw_366, tw_3, ⟨by decide, by decide⟩, by decide +kernel⟩
theorem tw_367 : Cond.methodLink RX2 55 yX2_whyNoWalk ∈ pm_T := pm_in (List.mem_append_right _ (List.mem_of_getElem? (i := 367) (by decide +kernel))) rfl
theorem tw_369 : Cond.instanceMethod yX2_whyNoWalk ∈ pm_T := pm_in (List.mem_append_right _ (List.mem_of_getElem? (i := 369) (by decide +kernel))) rfl
theorem ts_5 : Cond.selects RX2 yX2_whyNoWalk yX2_whyNoWalk ∈ pm_T := pm_in (List.mem_append_left _ (List.mem_of_getElem? (i := 5) (by decide +kernel))) rfl
theorem vl_X2_55 : pm_LV RX2 55 yX2_whyNoWalk := ⟨tw_367, tw_369, ts_5⟩
theorem tw_373 : Cond.methodLink RX2 58 yX2_whyNoMending ∈ pm_T := pm_in (List.mem_append_right _ (List.mem_of_getElem? (i := 373) (by decide +kernel))) rfl
theorem tw_375 : Cond.instanceMethod yX2_whyNoMending ∈ pm_T := pm_in (List.mem_append_right _ (List.mem_of_getElem? (i := 375) (by decide +kernel))) rfl
theorem ts_6 : Cond.selects RX2 yX2_whyNoMending yX2_whyNoMending ∈ pm_T := pm_in (List.mem_append_left _ (List.mem_of_getElem? (i := 6) (by decide +kernel))) rfl
theorem vl_X2_58 : pm_LV RX2 58 yX2_whyNoMending := ⟨tw_373, tw_375, ts_6⟩
theorem tw_384 : Cond.methodLink RX2 62 yX2_whyNoBreaking ∈ pm_T := pm_in (List.mem_append_right _ (List.mem_of_getElem? (i := 384) (by decide +kernel))) rfl
theorem tw_386 : Cond.instanceMethod yX2_whyNoBreaking ∈ pm_T := pm_in (List.mem_append_right _ (List.mem_of_getElem? (i := 386) (by decide +kernel))) rfl
theorem ts_7 : Cond.selects RX2 yX2_whyNoBreaking yX2_whyNoBreaking ∈ pm_T := pm_in (List.mem_append_left _ (List.mem_of_getElem? (i := 7) (by decide +kernel))) rfl
theorem vl_X2_62 : pm_LV RX2 62 yX2_whyNoBreaking := ⟨tw_384, tw_386, ts_7⟩
theorem tw_388 : Cond.methodLink RX2 65 yX2_countPales ∈ pm_T := pm_in (List.mem_append_right _ (List.mem_of_getElem? (i := 388) (by decide +kernel))) rfl
theorem tw_225 : Cond.instanceMethod yX2_countPales ∈ pm_T := pm_in (List.mem_append_right _ (List.mem_of_getElem? (i := 225) (by decide +kernel))) rfl
theorem tw_226 : Cond.selects RX2 yX2_countPales yX2_countPales ∈ pm_T := pm_in (List.mem_append_right _ (List.mem_of_getElem? (i := 226) (by decide +kernel))) rfl
theorem vl_X2_65 : pm_LV RX2 65 yX2_countPales := ⟨tw_388, tw_225, tw_226⟩
theorem tw_370 : Cond.code yX2_whyNoWalk cX2_whyNoWalk 3 (some .int) ∈ pm_T := pm_in (List.mem_append_right _ (List.mem_of_getElem? (i := 370) (by decide +kernel))) rfl
theorem my_X2_whyNoWalk : pm_Y yX2_whyNoWalk cX2_whyNoWalk 3 (some .int) 2 := ⟨tw_370, tw_3, ⟨by decide, by decide⟩, by decide +kernel⟩
theorem tw_371 : Cond.methodLink RX2 69 yX2_placeOf ∈ pm_T := pm_in (List.mem_append_right _ (List.mem_of_getElem? (i := 371) (by decide +kernel))) rfl
theorem tw_250 : Cond.instanceMethod yX2_placeOf ∈ pm_T := pm_in (List.mem_append_right _ (List.mem_of_getElem? (i := 250) (by decide +kernel))) rfl
theorem tw_251 : Cond.selects RX2 yX2_placeOf yX2_placeOf ∈ pm_T := pm_in (List.mem_append_right _ (List.mem_of_getElem? (i := 251) (by decide +kernel))) rfl
theorem vl_X2_69 : pm_LV RX2 69 yX2_placeOf := ⟨tw_371, tw_250, tw_251⟩
theorem tw_372 : Cond.methodLink RX2 72 yX2_milesBetween ∈ pm_T := pm_in (List.mem_append_right _ (List.mem_of_getElem? (i := 372) (by decide +kernel))) rfl
theorem tw_237 : Cond.instanceMethod yX2_milesBetween ∈ pm_T := pm_in (List.mem_append_right _ (List.mem_of_getElem? (i := 237) (by decide +kernel))) rfl
theorem tw_238 : Cond.selects RX2 yX2_milesBetween yX2_milesBetween ∈ pm_T := pm_in (List.mem_append_right _ (List.mem_of_getElem? (i := 238) (by decide +kernel))) rfl
theorem vl_X2_72 : pm_LV RX2 72 yX2_milesBetween := ⟨tw_372, tw_237, tw_238⟩
theorem tw_376 : Cond.code yX2_whyNoMending cX2_whyNoMending 2 (some .int) ∈ pm_T := pm_in (List.mem_append_right _ (List.mem_of_getElem? (i := 376) (by decide +kernel))) rfl
theorem my_X2_whyNoMending : pm_Y yX2_whyNoMending cX2_whyNoMending 2 (some .int) 1 := ⟨tw_376, tw_3, ⟨by decide, by decide⟩, by decide +kernel⟩
theorem tw_381 : Cond.methodLink RX2 75 yX2_whyNotFrom ∈ pm_T := pm_in (List.mem_append_right _ (List.mem_of_getElem? (i := 381) (by decide +kernel))) rfl
theorem tw_382 : Cond.static yX2_whyNotFrom ∈ pm_T := pm_in (List.mem_append_right _ (List.mem_of_getElem? (i := 382) (by decide +kernel))) rfl
theorem sl_X2_75 : pm_LS RX2 75 yX2_whyNotFrom := ⟨Or.inl tw_381, tw_382⟩
theorem tw_387 : Cond.code yX2_whyNoBreaking cX2_whyNoBreaking 3 (some .int) ∈ pm_T := pm_in (List.mem_append_right _ (List.mem_of_getElem? (i := 387) (by decide +kernel))) rfl
theorem my_X2_whyNoBreaking : pm_Y yX2_whyNoBreaking cX2_whyNoBreaking 3 (some .int) 2 := ⟨tw_387, tw_3, ⟨by decide, by decide⟩, by decide +kernel⟩
theorem tw_383 : Cond.code yX2_whyNotFrom cX2_whyNotFrom 2 (some .int) ∈ pm_T := pm_in (List.mem_append_right _ (List.mem_of_getElem? (i := 383) (by decide +kernel))) rfl
theorem my_X2_whyNotFrom : pm_Y yX2_whyNotFrom cX2_whyNotFrom 2 (some .int) 2 := ⟨tw_383, tw_3, ⟨by decide, by decide⟩, by decide +kernel⟩
theorem tw_412 : Cond.code yX2_perform cX2_perform 4 none ∈ pm_T := pm_in (List.mem_append_right _ (List.mem_of_getElem? (i := 412) (by decide +kernel))) rfl
theorem my_X2_perform : pm_Y yX2_perform cX2_perform 4 none 3 := ⟨tw_412, tw_3, ⟨by decide, by decide⟩, by decide +kernel⟩
theorem tw_413 : Cond.methodLink RX2 78 yX2_cowsOf ∈ pm_T := pm_in (List.mem_append_right _ (List.mem_of_getElem? (i := 413) (by decide +kernel))) rfl
theorem tw_414 : Cond.instanceMethod yX2_cowsOf ∈ pm_T := pm_in (List.mem_append_right _ (List.mem_of_getElem? (i := 414) (by decide +kernel))) rfl
theorem tw_415 : Cond.selects RX2 yX2_cowsOf yX2_cowsOf ∈ pm_T := pm_in (List.mem_append_right _ (List.mem_of_getElem? (i := 415) (by decide +kernel))) rfl
theorem vl_X2_78 : pm_LV RX2 78 yX2_cowsOf := ⟨tw_413, tw_414, tw_415⟩
theorem tw_417 : Cond.methodLink RX2 81 yX2_settle ∈ pm_T := pm_in (List.mem_append_right _ (List.mem_of_getElem? (i := 417) (by decide +kernel))) rfl
theorem tw_254 : Cond.instanceMethod yX2_settle ∈ pm_T := pm_in (List.mem_append_right _ (List.mem_of_getElem? (i := 254) (by decide +kernel))) rfl
theorem tw_255 : Cond.selects RX2 yX2_settle yX2_settle ∈ pm_T := pm_in (List.mem_append_right _ (List.mem_of_getElem? (i := 255) (by decide +kernel))) rfl
theorem vl_X2_81 : pm_LV RX2 81 yX2_settle := ⟨tw_417, tw_254, tw_255⟩
theorem tw_418 : Cond.methodLink RX2 85 yX2_mendPale ∈ pm_T := pm_in (List.mem_append_right _ (List.mem_of_getElem? (i := 418) (by decide +kernel))) rfl
theorem tw_420 : Cond.instanceMethod yX2_mendPale ∈ pm_T := pm_in (List.mem_append_right _ (List.mem_of_getElem? (i := 420) (by decide +kernel))) rfl
theorem ts_10 : Cond.selects RX2 yX2_mendPale yX2_mendPale ∈ pm_T := pm_in (List.mem_append_left _ (List.mem_of_getElem? (i := 10) (by decide +kernel))) rfl
theorem vl_X2_85 : pm_LV RX2 85 yX2_mendPale := ⟨tw_418, tw_420, ts_10⟩
theorem tw_422 : Cond.methodLink RX2 89 yX2_setStrength ∈ pm_T := pm_in (List.mem_append_right _ (List.mem_of_getElem? (i := 422) (by decide +kernel))) rfl
theorem tw_220 : Cond.instanceMethod yX2_setStrength ∈ pm_T := pm_in (List.mem_append_right _ (List.mem_of_getElem? (i := 220) (by decide +kernel))) rfl
theorem tw_221 : Cond.selects RX2 yX2_setStrength yX2_setStrength ∈ pm_T := pm_in (List.mem_append_right _ (List.mem_of_getElem? (i := 221) (by decide +kernel))) rfl
theorem vl_X2_89 : pm_LV RX2 89 yX2_setStrength := ⟨tw_422, tw_220, tw_221⟩
theorem tw_423 : Cond.methodLink RX2 92 yX2_blow ∈ pm_T := pm_in (List.mem_append_right _ (List.mem_of_getElem? (i := 423) (by decide +kernel))) rfl
theorem tw_425 : Cond.instanceMethod yX2_blow ∈ pm_T := pm_in (List.mem_append_right _ (List.mem_of_getElem? (i := 425) (by decide +kernel))) rfl
theorem ts_11 : Cond.selects RX2 yX2_blow yX2_blow ∈ pm_T := pm_in (List.mem_append_left _ (List.mem_of_getElem? (i := 11) (by decide +kernel))) rfl
theorem vl_X2_92 : pm_LV RX2 92 yX2_blow := ⟨tw_423, tw_425, ts_11⟩
theorem tw_427 : Cond.methodLink RX2 96 yX2_passDay ∈ pm_T := pm_in (List.mem_append_right _ (List.mem_of_getElem? (i := 427) (by decide +kernel))) rfl
theorem tw_429 : Cond.instanceMethod yX2_passDay ∈ pm_T := pm_in (List.mem_append_right _ (List.mem_of_getElem? (i := 429) (by decide +kernel))) rfl
theorem ts_12 : Cond.selects RX2 yX2_passDay yX2_passDay ∈ pm_T := pm_in (List.mem_append_left _ (List.mem_of_getElem? (i := 12) (by decide +kernel))) rfl
theorem vl_X2_96 : pm_LV RX2 96 yX2_passDay := ⟨tw_427, tw_429, ts_12⟩
theorem tw_421 : Cond.code yX2_mendPale cX2_mendPale 3 none ∈ pm_T := pm_in (List.mem_append_right _ (List.mem_of_getElem? (i := 421) (by decide +kernel))) rfl
theorem my_X2_mendPale : pm_Y yX2_mendPale cX2_mendPale 3 none 2 := ⟨tw_421, tw_3, ⟨by decide, by decide⟩, by decide +kernel⟩
theorem tw_395 : Cond.methodLink RX2 99 yJ9_min_7cf53 ∈ pm_T := pm_in (List.mem_append_right _ (List.mem_of_getElem? (i := 395) (by decide +kernel))) rfl
theorem tw_396 : Cond.static yJ9_min_7cf53 ∈ pm_T := pm_in (List.mem_append_right _ (List.mem_of_getElem? (i := 396) (by decide +kernel))) rfl
theorem sl_X2_99 : pm_LS RX2 99 yJ9_min_7cf53 := ⟨Or.inl tw_395, tw_396⟩
theorem tw_426 : Cond.code yX2_blow cX2_blow 3 none ∈ pm_T := pm_in (List.mem_append_right _ (List.mem_of_getElem? (i := 426) (by decide +kernel))) rfl
theorem my_X2_blow : pm_Y yX2_blow cX2_blow 3 none 1 := ⟨tw_426, tw_3, ⟨by decide, by decide⟩, by decide +kernel⟩
theorem tw_398 : Cond.methodLink RX2 104 yJ9_max_7cf53 ∈ pm_T := pm_in (List.mem_append_right _ (List.mem_of_getElem? (i := 398) (by decide +kernel))) rfl
theorem tw_399 : Cond.static yJ9_max_7cf53 ∈ pm_T := pm_in (List.mem_append_right _ (List.mem_of_getElem? (i := 399) (by decide +kernel))) rfl
theorem sl_X2_104 : pm_LS RX2 104 yJ9_max_7cf53 := ⟨Or.inl tw_398, tw_399⟩
theorem tw_430 : Cond.code yX2_passDay cX2_passDay 4 none ∈ pm_T := pm_in (List.mem_append_right _ (List.mem_of_getElem? (i := 430) (by decide +kernel))) rfl
theorem my_X2_passDay : pm_Y yX2_passDay cX2_passDay 4 none 0 := ⟨tw_430, tw_3, ⟨by decide, by decide⟩, by decide +kernel⟩
theorem tw_431 : Cond.methodLink RX2 107 yJ6_compare_7cf53 ∈ pm_T := pm_in (List.mem_append_right _ (List.mem_of_getElem? (i := 431) (by decide +kernel))) rfl
theorem tw_432 : Cond.static yJ6_compare_7cf53 ∈ pm_T := pm_in (List.mem_append_right _ (List.mem_of_getElem? (i := 432) (by decide +kernel))) rfl
theorem sl_X2_107 : pm_LS RX2 107 yJ6_compare_7cf53 := ⟨Or.inl tw_431, tw_432⟩
theorem tw_394 : Cond.code yX2_gapMadeBy cX2_gapMadeBy 4 (some .int) ∈ pm_T := pm_in (List.mem_append_right _ (List.mem_of_getElem? (i := 394) (by decide +kernel))) rfl
theorem my_X2_gapMadeBy : pm_Y yX2_gapMadeBy cX2_gapMadeBy 4 (some .int) 3 := ⟨tw_394, tw_3, ⟨by decide, by decide⟩, by decide +kernel⟩
theorem tw_401 : Cond.methodLink RX2 112 yX2_gapMadeByWind ∈ pm_T := pm_in (List.mem_append_right _ (List.mem_of_getElem? (i := 401) (by decide +kernel))) rfl
theorem tw_403 : Cond.instanceMethod yX2_gapMadeByWind ∈ pm_T := pm_in (List.mem_append_right _ (List.mem_of_getElem? (i := 403) (by decide +kernel))) rfl
theorem ts_8 : Cond.selects RX2 yX2_gapMadeByWind yX2_gapMadeByWind ∈ pm_T := pm_in (List.mem_append_left _ (List.mem_of_getElem? (i := 8) (by decide +kernel))) rfl
theorem vl_X2_112 : pm_LV RX2 112 yX2_gapMadeByWind := ⟨tw_401, tw_403, ts_8⟩
theorem tw_404 : Cond.code yX2_gapMadeByWind cX2_gapMadeByWind 5 (some .int) ∈ pm_T := pm_in (List.mem_append_right _ (List.mem_of_getElem? (i := 404) (by decide +kernel))) rfl
theorem my_X2_gapMadeByWind : pm_Y yX2_gapMadeByWind cX2_gapMadeByWind 5 (some .int) 1 := ⟨tw_404, tw_3, ⟨by decide, by decide⟩, by decide +kernel⟩
theorem tw_631 : Cond.code yX2_drawActs cX2_drawActs 8 none ∈ pm_T := pm_in (List.mem_append_right _ (List.mem_of_getElem? (i := 631) (by decide +kernel))) rfl
theorem my_X2_drawActs : pm_Y yX2_drawActs cX2_drawActs 8 none 2 := ⟨tw_631, tw_3, ⟨by decide, by decide⟩, by decide +kernel⟩
theorem tw_632 : Cond.constant RX2 115 (65537) ∈ pm_T := pm_in (List.mem_append_right _ (List.mem_of_getElem? (i := 632) (by decide +kernel))) rfl
theorem kc_X2_115 : Cond.constant RX2 115 (65537) ∈ pm_T := tw_632
theorem tw_633 : Cond.methodLink RX2 116 yX2_drawnKind ∈ pm_T := pm_in (List.mem_append_right _ (List.mem_of_getElem? (i := 633) (by decide +kernel))) rfl
theorem tw_634 : Cond.static yX2_drawnKind ∈ pm_T := pm_in (List.mem_append_right _ (List.mem_of_getElem? (i := 634) (by decide +kernel))) rfl
theorem sl_X2_116 : pm_LS RX2 116 yX2_drawnKind := ⟨Or.inl tw_633, tw_634⟩
theorem tw_636 : Cond.methodLink RX2 119 yX2_whyNot ∈ pm_T := pm_in (List.mem_append_right _ (List.mem_of_getElem? (i := 636) (by decide +kernel))) rfl
theorem tw_364 : Cond.instanceMethod yX2_whyNot ∈ pm_T := pm_in (List.mem_append_right _ (List.mem_of_getElem? (i := 364) (by decide +kernel))) rfl
theorem tw_365 : Cond.selects RX2 yX2_whyNot yX2_whyNot ∈ pm_T := pm_in (List.mem_append_right _ (List.mem_of_getElem? (i := 365) (by decide +kernel))) rfl
theorem vl_X2_119 : pm_LV RX2 119 yX2_whyNot := ⟨tw_636, tw_364, tw_365⟩
theorem tw_637 : Cond.methodLink RX2 123 yX2_perform ∈ pm_T := pm_in (List.mem_append_right _ (List.mem_of_getElem? (i := 637) (by decide +kernel))) rfl
theorem tw_410 : Cond.instanceMethod yX2_perform ∈ pm_T := pm_in (List.mem_append_right _ (List.mem_of_getElem? (i := 410) (by decide +kernel))) rfl
theorem tw_411 : Cond.selects RX2 yX2_perform yX2_perform ∈ pm_T := pm_in (List.mem_append_right _ (List.mem_of_getElem? (i := 411) (by decide +kernel))) rfl
theorem vl_X2_123 : pm_LV RX2 123 yX2_perform := ⟨tw_637, tw_410, tw_411⟩
theorem tw_635 : Cond.code yX2_drawnKind cX2_drawnKind 1 (some .int) ∈ pm_T := pm_in (List.mem_append_right _ (List.mem_of_getElem? (i := 635) (by decide +kernel))) rfl
theorem my_X2_drawnKind : pm_Y yX2_drawnKind cX2_drawnKind 1 (some .int) 1 := ⟨tw_635, tw_3, ⟨by decide, by decide⟩, by decide +kernel⟩
theorem tw_118 : Cond.code yX3_init cX3_init 1 none ∈ pm_T := pm_in (List.mem_append_right _ (List.mem_of_getElem? (i := 118) (by decide +kernel))) rfl
theorem tw_7 : Cond.initialized RX3 ∈ pm_T := pm_in (List.mem_append_right _ (List.mem_of_getElem? (i := 7) (by decide +kernel))) rfl
theorem my_X3_init : pm_Y yX3_init cX3_init 1 none 0 := ⟨tw_118, tw_7, ⟨by decide, by decide⟩, by decide +kernel⟩
theorem tw_119 : Cond.methodLink RX3 3 objectInit ∈ pm_T := pm_in (List.mem_append_right _ (List.mem_of_getElem? (i := 119) (by decide +kernel))) rfl
theorem oi_X3_3 : Cond.methodLink RX3 3 objectInit ∈ pm_T ∧ Cond.instanceMethod objectInit ∈ pm_T ∧ Cond.code objectInit ⟨#[0xb1]⟩ 1 none ∈ pm_T := ⟨tw_119, tw_22, tw_23⟩
theorem tw_120 : Cond.fieldLink RX3 9 (TX3 0).1 (TX3 0).2.1 (TX3 0).2.2.1 ∈ pm_T := pm_in (List.mem_append_right _ (List.mem_of_getElem? (i := 120) (by decide +kernel))) rfl
theorem fp_X3_9 : pm_FP RX3 9 2 0 true (.array .int) := ⟨RX3, TX3, 2, tyX3, in_X3, rfl, by decide, tw_120, tyX3_ok, nmX3, rfl, by decide +kernel, fun _ => rfl⟩
theorem tw_121 : Cond.fieldLink RX3 15 (TX3 1).1 (TX3 1).2.1 (TX3 1).2.2.1 ∈ pm_T := pm_in (List.mem_append_right _ (List.mem_of_getElem? (i := 121) (by decide +kernel))) rfl
theorem fp_X3_15 : pm_FP RX3 15 2 1 false .int := ⟨RX3, TX3, 2, tyX3, in_X3, rfl, by decide, tw_121, tyX3_ok, nmX3, rfl, by decide +kernel, fun h => by cases h⟩
theorem tw_295 : Cond.code yX3_size cX3_size 1 (some .int) ∈ pm_T := pm_in (List.mem_append_right _ (List.mem_of_getElem? (i := 295) (by decide +kernel))) rfl
theorem my_X3_size : pm_Y yX3_size cX3_size 1 (some .int) 0 := ⟨tw_295, tw_7, ⟨by decide, by decide⟩, by decide +kernel⟩
theorem fl_X3_15 : pm_FL RX3 15 2 1 := ⟨RX3, TX3, 2, in_X3, rfl, by decide, Or.inl tw_121⟩
theorem tw_303 : Cond.code yX3_clear cX3_clear 1 none ∈ pm_T := pm_in (List.mem_append_right _ (List.mem_of_getElem? (i := 303) (by decide +kernel))) rfl
theorem my_X3_clear : pm_Y yX3_clear cX3_clear 1 none 0 := ⟨tw_303, tw_7, ⟨by decide, by decide⟩, by decide +kernel⟩
theorem tw_291 : Cond.code yX3_add cX3_add 2 (some .boolean) ∈ pm_T := pm_in (List.mem_append_right _ (List.mem_of_getElem? (i := 291) (by decide +kernel))) rfl
theorem my_X3_add : pm_Y yX3_add cX3_add 2 (some .boolean) 1 := ⟨tw_291, tw_7, ⟨by decide, by decide⟩, by decide +kernel⟩
theorem fl_X3_9 : pm_FL RX3 9 2 0 := ⟨RX3, TX3, 2, in_X3, rfl, by decide, Or.inl tw_120⟩
theorem tw_311 : Cond.code yX3_faultPlace cX3_faultPlace 3 (some .int) ∈ pm_T := pm_in (List.mem_append_right _ (List.mem_of_getElem? (i := 311) (by decide +kernel))) rfl
theorem my_X3_faultPlace : pm_Y yX3_faultPlace cX3_faultPlace 3 (some .int) 0 := ⟨tw_311, tw_7, ⟨by decide, by decide⟩, by decide +kernel⟩
theorem tw_312 : Cond.methodLink RX3 19 yX3_nextAfter ∈ pm_T := pm_in (List.mem_append_right _ (List.mem_of_getElem? (i := 312) (by decide +kernel))) rfl
theorem tw_313 : Cond.static yX3_nextAfter ∈ pm_T := pm_in (List.mem_append_right _ (List.mem_of_getElem? (i := 313) (by decide +kernel))) rfl
theorem sl_X3_19 : pm_LS RX3 19 yX3_nextAfter := ⟨Or.inl tw_312, tw_313⟩
theorem tw_314 : Cond.code yX3_nextAfter cX3_nextAfter 2 (some .int) ∈ pm_T := pm_in (List.mem_append_right _ (List.mem_of_getElem? (i := 314) (by decide +kernel))) rfl
theorem my_X3_nextAfter : pm_Y yX3_nextAfter cX3_nextAfter 2 (some .int) 2 := ⟨tw_314, tw_7, ⟨by decide, by decide⟩, by decide +kernel⟩
theorem tw_315 : Cond.methodLink RX3 23 yX3_nextAfterStart ∈ pm_T := pm_in (List.mem_append_right _ (List.mem_of_getElem? (i := 315) (by decide +kernel))) rfl
theorem tw_316 : Cond.static yX3_nextAfterStart ∈ pm_T := pm_in (List.mem_append_right _ (List.mem_of_getElem? (i := 316) (by decide +kernel))) rfl
theorem sl_X3_23 : pm_LS RX3 23 yX3_nextAfterStart := ⟨Or.inl tw_315, tw_316⟩
theorem tw_318 : Cond.methodLinkNest RX3 27 yX9_isFarm "PaleMoor" ∈ pm_T := pm_in (List.mem_append_right _ (List.mem_of_getElem? (i := 318) (by decide +kernel))) rfl
theorem sl_X3_27 : pm_LS RX3 27 yX9_isFarm := ⟨Or.inr ⟨_, tw_318⟩, tw_217⟩
theorem tw_317 : Cond.code yX3_nextAfterStart cX3_nextAfterStart 1 (some .int) ∈ pm_T := pm_in (List.mem_append_right _ (List.mem_of_getElem? (i := 317) (by decide +kernel))) rfl
theorem my_X3_nextAfterStart : pm_Y yX3_nextAfterStart cX3_nextAfterStart 1 (some .int) 1 := ⟨tw_317, tw_7, ⟨by decide, by decide⟩, by decide +kernel⟩
theorem tw_347 : Cond.code yX3_signAt cX3_signAt 2 (some .int) ∈ pm_T := pm_in (List.mem_append_right _ (List.mem_of_getElem? (i := 347) (by decide +kernel))) rfl
theorem my_X3_signAt : pm_Y yX3_signAt cX3_signAt 2 (some .int) 1 := ⟨tw_347, tw_7, ⟨by decide, by decide⟩, by decide +kernel⟩
theorem tw_343 : Cond.code yX3_kindAt cX3_kindAt 2 (some .int) ∈ pm_T := pm_in (List.mem_append_right _ (List.mem_of_getElem? (i := 343) (by decide +kernel))) rfl
theorem my_X3_kindAt : pm_Y yX3_kindAt cX3_kindAt 2 (some .int) 1 := ⟨tw_343, tw_7, ⟨by decide, by decide⟩, by decide +kernel⟩
theorem tw_344 : Cond.methodLink RX3 31 yX3_signAt ∈ pm_T := pm_in (List.mem_append_right _ (List.mem_of_getElem? (i := 344) (by decide +kernel))) rfl
theorem tw_346 : Cond.instanceMethod yX3_signAt ∈ pm_T := pm_in (List.mem_append_right _ (List.mem_of_getElem? (i := 346) (by decide +kernel))) rfl
theorem ts_3 : Cond.selects RX3 yX3_signAt yX3_signAt ∈ pm_T := pm_in (List.mem_append_left _ (List.mem_of_getElem? (i := 3) (by decide +kernel))) rfl
theorem vl_X3_31 : pm_LV RX3 31 yX3_signAt := ⟨tw_344, tw_346, ts_3⟩
theorem tw_348 : Cond.methodLink RX3 34 yX3_deedKind ∈ pm_T := pm_in (List.mem_append_right _ (List.mem_of_getElem? (i := 348) (by decide +kernel))) rfl
theorem tw_349 : Cond.static yX3_deedKind ∈ pm_T := pm_in (List.mem_append_right _ (List.mem_of_getElem? (i := 349) (by decide +kernel))) rfl
theorem sl_X3_34 : pm_LS RX3 34 yX3_deedKind := ⟨Or.inl tw_348, tw_349⟩
theorem tw_350 : Cond.code yX3_deedKind cX3_deedKind 1 (some .int) ∈ pm_T := pm_in (List.mem_append_right _ (List.mem_of_getElem? (i := 350) (by decide +kernel))) rfl
theorem my_X3_deedKind : pm_Y yX3_deedKind cX3_deedKind 1 (some .int) 1 := ⟨tw_350, tw_7, ⟨by decide, by decide⟩, by decide +kernel⟩
theorem tw_354 : Cond.code yX3_manAt cX3_manAt 2 (some .int) ∈ pm_T := pm_in (List.mem_append_right _ (List.mem_of_getElem? (i := 354) (by decide +kernel))) rfl
theorem my_X3_manAt : pm_Y yX3_manAt cX3_manAt 2 (some .int) 1 := ⟨tw_354, tw_7, ⟨by decide, by decide⟩, by decide +kernel⟩
theorem tw_358 : Cond.code yX3_numberAt cX3_numberAt 3 (some .int) ∈ pm_T := pm_in (List.mem_append_right _ (List.mem_of_getElem? (i := 358) (by decide +kernel))) rfl
theorem my_X3_numberAt : pm_Y yX3_numberAt cX3_numberAt 3 (some .int) 2 := ⟨tw_358, tw_7, ⟨by decide, by decide⟩, by decide +kernel⟩
theorem tw_436 : Cond.code yX3_lengthOf cX3_lengthOf 1 (some .int) ∈ pm_T := pm_in (List.mem_append_right _ (List.mem_of_getElem? (i := 436) (by decide +kernel))) rfl
theorem my_X3_lengthOf : pm_Y yX3_lengthOf cX3_lengthOf 1 (some .int) 1 := ⟨tw_436, tw_7, ⟨by decide, by decide⟩, by decide +kernel⟩
theorem tw_175 : Cond.code yX4_init cX4_init 4 none ∈ pm_T := pm_in (List.mem_append_right _ (List.mem_of_getElem? (i := 175) (by decide +kernel))) rfl
theorem tw_10 : Cond.initialized RX4 ∈ pm_T := pm_in (List.mem_append_right _ (List.mem_of_getElem? (i := 10) (by decide +kernel))) rfl
theorem my_X4_init : pm_Y yX4_init cX4_init 4 none 0 := ⟨tw_175, tw_10, ⟨by decide, by decide⟩, by decide +kernel⟩
theorem tw_176 : Cond.methodLink RX4 3 objectInit ∈ pm_T := pm_in (List.mem_append_right _ (List.mem_of_getElem? (i := 176) (by decide +kernel))) rfl
theorem oi_X4_3 : Cond.methodLink RX4 3 objectInit ∈ pm_T ∧ Cond.instanceMethod objectInit ∈ pm_T ∧ Cond.code objectInit ⟨#[0xb1]⟩ 1 none ∈ pm_T := ⟨tw_176, tw_22, tw_23⟩
theorem tw_180 : Cond.fieldLink RX4 9 (TX4 0).1 (TX4 0).2.1 (TX4 0).2.2.1 ∈ pm_T := pm_in (List.mem_append_right _ (List.mem_of_getElem? (i := 180) (by decide +kernel))) rfl
theorem fp_X4_9 : pm_FP RX4 9 3 0 true (.array .int) := ⟨RX4, TX4, 1, tyX4, in_X4, rfl, by decide, tw_180, tyX4_ok, nmX4, rfl, by decide +kernel, fun _ => rfl⟩
theorem fl_X4_9 : pm_FL RX4 9 3 0 := ⟨RX4, TX4, 1, in_X4, rfl, by decide, Or.inl tw_180⟩
theorem tw_177 : Cond.methodLink RX4 15 yX4_leastMissing ∈ pm_T := pm_in (List.mem_append_right _ (List.mem_of_getElem? (i := 177) (by decide +kernel))) rfl
theorem tw_178 : Cond.static yX4_leastMissing ∈ pm_T := pm_in (List.mem_append_right _ (List.mem_of_getElem? (i := 178) (by decide +kernel))) rfl
theorem sl_X4_15 : pm_LS RX4 15 yX4_leastMissing := ⟨Or.inl tw_177, tw_178⟩
theorem tw_179 : Cond.code yX4_leastMissing cX4_leastMissing 2 (some .int) ∈ pm_T := pm_in (List.mem_append_right _ (List.mem_of_getElem? (i := 179) (by decide +kernel))) rfl
theorem my_X4_leastMissing : pm_Y yX4_leastMissing cX4_leastMissing 2 (some .int) 1 := ⟨tw_179, tw_10, ⟨by decide, by decide⟩, by decide +kernel⟩
theorem tw_601 : Cond.code yX4_winningLess cX4_winningLess 3 (some .int) ∈ pm_T := pm_in (List.mem_append_right _ (List.mem_of_getElem? (i := 601) (by decide +kernel))) rfl
theorem my_X4_winningLess : pm_Y yX4_winningLess cX4_winningLess 3 (some .int) 1 := ⟨tw_601, tw_10, ⟨by decide, by decide⟩, by decide +kernel⟩
theorem tw_162 : Cond.code yX5_init cX5_init 1 none ∈ pm_T := pm_in (List.mem_append_right _ (List.mem_of_getElem? (i := 162) (by decide +kernel))) rfl
theorem tw_9 : Cond.initialized RX5 ∈ pm_T := pm_in (List.mem_append_right _ (List.mem_of_getElem? (i := 9) (by decide +kernel))) rfl
theorem my_X5_init : pm_Y yX5_init cX5_init 1 none 0 := ⟨tw_162, tw_9, ⟨by decide, by decide⟩, by decide +kernel⟩
theorem tw_163 : Cond.methodLink RX5 3 objectInit ∈ pm_T := pm_in (List.mem_append_right _ (List.mem_of_getElem? (i := 163) (by decide +kernel))) rfl
theorem oi_X5_3 : Cond.methodLink RX5 3 objectInit ∈ pm_T ∧ Cond.instanceMethod objectInit ∈ pm_T ∧ Cond.code objectInit ⟨#[0xb1]⟩ 1 none ∈ pm_T := ⟨tw_163, tw_22, tw_23⟩
theorem tw_164 : Cond.fieldLink RX5 9 (TX5 0).1 (TX5 0).2.1 (TX5 0).2.2.1 ∈ pm_T := pm_in (List.mem_append_right _ (List.mem_of_getElem? (i := 164) (by decide +kernel))) rfl
theorem fp_X5_9 : pm_FP RX5 9 4 0 true (.array .int) := ⟨RX5, TX5, 2, tyX5, in_X5, rfl, by decide, tw_164, tyX5_ok, nmX5, rfl, by decide +kernel, fun _ => rfl⟩
theorem tw_165 : Cond.fieldLink RX5 15 (TX5 1).1 (TX5 1).2.1 (TX5 1).2.2.1 ∈ pm_T := pm_in (List.mem_append_right _ (List.mem_of_getElem? (i := 165) (by decide +kernel))) rfl
theorem fp_X5_15 : pm_FP RX5 15 4 1 true (.array .int) := ⟨RX5, TX5, 2, tyX5, in_X5, rfl, by decide, tw_165, tyX5_ok, nmX5, rfl, by decide +kernel, fun _ => rfl⟩
theorem tw_471 : Cond.code yX5_measure cX5_measure 5 none ∈ pm_T := pm_in (List.mem_append_right _ (List.mem_of_getElem? (i := 471) (by decide +kernel))) rfl
theorem my_X5_measure : pm_Y yX5_measure cX5_measure 5 none 1 := ⟨tw_471, tw_9, ⟨by decide, by decide⟩, by decide +kernel⟩
theorem tw_472 : Cond.methodLink RX5 18 yX2_milesBetween ∈ pm_T := pm_in (List.mem_append_right _ (List.mem_of_getElem? (i := 472) (by decide +kernel))) rfl
theorem vl_X5_18 : pm_LV RX5 18 yX2_milesBetween := ⟨tw_472, tw_237, tw_238⟩
theorem fl_X5_9 : pm_FL RX5 9 4 0 := ⟨RX5, TX5, 2, in_X5, rfl, by decide, Or.inl tw_164⟩
theorem tw_473 : Cond.methodLink RX5 24 yX5_shortenBy ∈ pm_T := pm_in (List.mem_append_right _ (List.mem_of_getElem? (i := 473) (by decide +kernel))) rfl
theorem tw_475 : Cond.instanceMethod yX5_shortenBy ∈ pm_T := pm_in (List.mem_append_right _ (List.mem_of_getElem? (i := 475) (by decide +kernel))) rfl
theorem ts_13 : Cond.selects RX5 yX5_shortenBy yX5_shortenBy ∈ pm_T := pm_in (List.mem_append_left _ (List.mem_of_getElem? (i := 13) (by decide +kernel))) rfl
theorem vl_X5_24 : pm_LV RX5 24 yX5_shortenBy := ⟨tw_473, tw_475, ts_13⟩
theorem tw_476 : Cond.code yX5_shortenBy cX5_shortenBy 5 none ∈ pm_T := pm_in (List.mem_append_right _ (List.mem_of_getElem? (i := 476) (by decide +kernel))) rfl
theorem my_X5_shortenBy : pm_Y yX5_shortenBy cX5_shortenBy 5 none 1 := ⟨tw_476, tw_9, ⟨by decide, by decide⟩, by decide +kernel⟩
theorem tw_480 : Cond.code yX5_between cX5_between 3 (some .int) ∈ pm_T := pm_in (List.mem_append_right _ (List.mem_of_getElem? (i := 480) (by decide +kernel))) rfl
theorem my_X5_between : pm_Y yX5_between cX5_between 3 (some .int) 2 := ⟨tw_480, tw_9, ⟨by decide, by decide⟩, by decide +kernel⟩
theorem tw_481 : Cond.methodLinkNest RX5 28 yX9_isFarm "PaleMoor" ∈ pm_T := pm_in (List.mem_append_right _ (List.mem_of_getElem? (i := 481) (by decide +kernel))) rfl
theorem sl_X5_28 : pm_LS RX5 28 yX9_isFarm := ⟨Or.inr ⟨_, tw_481⟩, tw_217⟩
theorem tw_482 : Cond.methodLink RX5 32 yX5_milesOrNone ∈ pm_T := pm_in (List.mem_append_right _ (List.mem_of_getElem? (i := 482) (by decide +kernel))) rfl
theorem tw_483 : Cond.static yX5_milesOrNone ∈ pm_T := pm_in (List.mem_append_right _ (List.mem_of_getElem? (i := 483) (by decide +kernel))) rfl
theorem sl_X5_32 : pm_LS RX5 32 yX5_milesOrNone := ⟨Or.inl tw_482, tw_483⟩
theorem tw_484 : Cond.code yX5_milesOrNone cX5_milesOrNone 1 (some .int) ∈ pm_T := pm_in (List.mem_append_right _ (List.mem_of_getElem? (i := 484) (by decide +kernel))) rfl
theorem my_X5_milesOrNone : pm_Y yX5_milesOrNone cX5_milesOrNone 1 (some .int) 1 := ⟨tw_484, tw_9, ⟨by decide, by decide⟩, by decide +kernel⟩
theorem tw_496 : Cond.code yX5_tour cX5_tour 5 (some .int) ∈ pm_T := pm_in (List.mem_append_right _ (List.mem_of_getElem? (i := 496) (by decide +kernel))) rfl
theorem my_X5_tour : pm_Y yX5_tour cX5_tour 5 (some .int) 2 := ⟨tw_496, tw_9, ⟨by decide, by decide⟩, by decide +kernel⟩
theorem fl_X5_15 : pm_FL RX5 15 4 1 := ⟨RX5, TX5, 2, in_X5, rfl, by decide, Or.inl tw_165⟩
theorem tw_497 : Cond.methodLink RX5 36 yJ7_fill_53178 ∈ pm_T := pm_in (List.mem_append_right _ (List.mem_of_getElem? (i := 497) (by decide +kernel))) rfl
theorem sl_X5_36 : pm_LS RX5 36 yJ7_fill_53178 := ⟨Or.inl tw_497, tw_37⟩
theorem tw_498 : Cond.methodLink RX5 42 yX5_lengthen ∈ pm_T := pm_in (List.mem_append_right _ (List.mem_of_getElem? (i := 498) (by decide +kernel))) rfl
theorem tw_500 : Cond.instanceMethod yX5_lengthen ∈ pm_T := pm_in (List.mem_append_right _ (List.mem_of_getElem? (i := 500) (by decide +kernel))) rfl
theorem ts_14 : Cond.selects RX5 yX5_lengthen yX5_lengthen ∈ pm_T := pm_in (List.mem_append_left _ (List.mem_of_getElem? (i := 14) (by decide +kernel))) rfl
theorem vl_X5_42 : pm_LV RX5 42 yX5_lengthen := ⟨tw_498, tw_500, ts_14⟩
theorem tw_502 : Cond.methodLink RX5 46 yX5_leastHome ∈ pm_T := pm_in (List.mem_append_right _ (List.mem_of_getElem? (i := 502) (by decide +kernel))) rfl
theorem tw_504 : Cond.instanceMethod yX5_leastHome ∈ pm_T := pm_in (List.mem_append_right _ (List.mem_of_getElem? (i := 504) (by decide +kernel))) rfl
theorem ts_15 : Cond.selects RX5 yX5_leastHome yX5_leastHome ∈ pm_T := pm_in (List.mem_append_left _ (List.mem_of_getElem? (i := 15) (by decide +kernel))) rfl
theorem vl_X5_46 : pm_LV RX5 46 yX5_leastHome := ⟨tw_502, tw_504, ts_15⟩
theorem tw_501 : Cond.code yX5_lengthen cX5_lengthen 7 none ∈ pm_T := pm_in (List.mem_append_right _ (List.mem_of_getElem? (i := 501) (by decide +kernel))) rfl
theorem my_X5_lengthen : pm_Y yX5_lengthen cX5_lengthen 7 none 3 := ⟨tw_501, tw_9, ⟨by decide, by decide⟩, by decide +kernel⟩
theorem tw_505 : Cond.code yX5_leastHome cX5_leastHome 5 (some .int) ∈ pm_T := pm_in (List.mem_append_right _ (List.mem_of_getElem? (i := 505) (by decide +kernel))) rfl
theorem my_X5_leastHome : pm_Y yX5_leastHome cX5_leastHome 5 (some .int) 2 := ⟨tw_505, tw_9, ⟨by decide, by decide⟩, by decide +kernel⟩
theorem tw_506 : Cond.methodLink RX5 49 yJ9_min_7cf53 ∈ pm_T := pm_in (List.mem_append_right _ (List.mem_of_getElem? (i := 506) (by decide +kernel))) rfl
theorem sl_X5_49 : pm_LS RX5 49 yJ9_min_7cf53 := ⟨Or.inl tw_506, tw_396⟩
theorem tw_74 : Cond.code yX6_init cX6_init 1 none ∈ pm_T := pm_in (List.mem_append_right _ (List.mem_of_getElem? (i := 74) (by decide +kernel))) rfl
theorem tw_6 : Cond.initialized RX6 ∈ pm_T := pm_in (List.mem_append_right _ (List.mem_of_getElem? (i := 6) (by decide +kernel))) rfl
theorem my_X6_init : pm_Y yX6_init cX6_init 1 none 0 := ⟨tw_74, tw_6, ⟨by decide, by decide⟩, by decide +kernel⟩
theorem tw_75 : Cond.methodLink RX6 3 objectInit ∈ pm_T := pm_in (List.mem_append_right _ (List.mem_of_getElem? (i := 75) (by decide +kernel))) rfl
theorem oi_X6_3 : Cond.methodLink RX6 3 objectInit ∈ pm_T ∧ Cond.instanceMethod objectInit ∈ pm_T ∧ Cond.code objectInit ⟨#[0xb1]⟩ 1 none ∈ pm_T := ⟨tw_75, tw_22, tw_23⟩
theorem tw_80 : Cond.fieldLink RX6 9 (TX6 0).1 (TX6 0).2.1 (TX6 0).2.2.1 ∈ pm_T := pm_in (List.mem_append_right _ (List.mem_of_getElem? (i := 80) (by decide +kernel))) rfl
theorem fp_X6_9 : pm_FP RX6 9 5 0 true (.array .int) := ⟨RX6, TX6, 4, tyX6, in_X6, rfl, by decide, tw_80, tyX6_ok, nmX6, rfl, by decide +kernel, fun _ => rfl⟩
theorem tw_81 : Cond.fieldLink RX6 15 (TX6 1).1 (TX6 1).2.1 (TX6 1).2.2.1 ∈ pm_T := pm_in (List.mem_append_right _ (List.mem_of_getElem? (i := 81) (by decide +kernel))) rfl
theorem fp_X6_15 : pm_FP RX6 15 5 1 true (.array .int) := ⟨RX6, TX6, 4, tyX6, in_X6, rfl, by decide, tw_81, tyX6_ok, nmX6, rfl, by decide +kernel, fun _ => rfl⟩
theorem tw_82 : Cond.fieldLink RX6 18 (TX6 2).1 (TX6 2).2.1 (TX6 2).2.2.1 ∈ pm_T := pm_in (List.mem_append_right _ (List.mem_of_getElem? (i := 82) (by decide +kernel))) rfl
theorem fp_X6_18 : pm_FP RX6 18 5 2 false .int := ⟨RX6, TX6, 4, tyX6, in_X6, rfl, by decide, tw_82, tyX6_ok, nmX6, rfl, by decide +kernel, fun h => by cases h⟩
theorem tw_84 : Cond.fieldLink RX6 22 (TX6 3).1 (TX6 3).2.1 (TX6 3).2.2.1 ∈ pm_T := pm_in (List.mem_append_right _ (List.mem_of_getElem? (i := 84) (by decide +kernel))) rfl
theorem fp_X6_22 : pm_FP RX6 22 5 3 false .int := ⟨RX6, TX6, 4, tyX6, in_X6, rfl, by decide, tw_84, tyX6_ok, nmX6, rfl, by decide +kernel, fun h => by cases h⟩
theorem tw_76 : Cond.methodLink RX6 25 yX6_clear ∈ pm_T := pm_in (List.mem_append_right _ (List.mem_of_getElem? (i := 76) (by decide +kernel))) rfl
theorem tw_77 : Cond.instanceMethod yX6_clear ∈ pm_T := pm_in (List.mem_append_right _ (List.mem_of_getElem? (i := 77) (by decide +kernel))) rfl
theorem tw_78 : Cond.selects RX6 yX6_clear yX6_clear ∈ pm_T := pm_in (List.mem_append_right _ (List.mem_of_getElem? (i := 78) (by decide +kernel))) rfl
theorem vl_X6_25 : pm_LV RX6 25 yX6_clear := ⟨tw_76, tw_77, tw_78⟩
theorem tw_661 : Cond.code yX6_copyFrom cX6_copyFrom 2 none ∈ pm_T := pm_in (List.mem_append_right _ (List.mem_of_getElem? (i := 661) (by decide +kernel))) rfl
theorem my_X6_copyFrom : pm_Y yX6_copyFrom cX6_copyFrom 2 none 1 := ⟨tw_661, tw_6, ⟨by decide, by decide⟩, by decide +kernel⟩
theorem fl_X6_9 : pm_FL RX6 9 5 0 := ⟨RX6, TX6, 4, in_X6, rfl, by decide, Or.inl tw_80⟩
theorem tw_662 : Cond.methodLink RX6 28 arraycopyName ∈ pm_T := pm_in (List.mem_append_right _ (List.mem_of_getElem? (i := 662) (by decide +kernel))) rfl
theorem ac_X6_28 : Cond.methodLink RX6 28 arraycopyName ∈ pm_T ∧ Cond.native arraycopyName ∈ pm_T ∧ Cond.static arraycopyName ∈ pm_T ∧ Cond.initialized "java/lang/System" ∈ pm_T := ⟨tw_662, tw_338, tw_337, tw_12⟩
theorem fl_X6_18 : pm_FL RX6 18 5 2 := ⟨RX6, TX6, 4, in_X6, rfl, by decide, Or.inl tw_82⟩
theorem fl_X6_22 : pm_FL RX6 22 5 3 := ⟨RX6, TX6, 4, in_X6, rfl, by decide, Or.inl tw_84⟩
theorem tw_79 : Cond.code yX6_clear cX6_clear 2 none ∈ pm_T := pm_in (List.mem_append_right _ (List.mem_of_getElem? (i := 79) (by decide +kernel))) rfl
theorem my_X6_clear : pm_Y yX6_clear cX6_clear 2 none 0 := ⟨tw_79, tw_6, ⟨by decide, by decide⟩, by decide +kernel⟩
theorem tw_556 : Cond.code yX6_add cX6_add 6 (some .boolean) ∈ pm_T := pm_in (List.mem_append_right _ (List.mem_of_getElem? (i := 556) (by decide +kernel))) rfl
theorem my_X6_add : pm_Y yX6_add cX6_add 6 (some .boolean) 3 := ⟨tw_556, tw_6, ⟨by decide, by decide⟩, by decide +kernel⟩
theorem tw_557 : Cond.methodLink RX6 34 yX6_isDown ∈ pm_T := pm_in (List.mem_append_right _ (List.mem_of_getElem? (i := 557) (by decide +kernel))) rfl
theorem tw_558 : Cond.static yX6_isDown ∈ pm_T := pm_in (List.mem_append_right _ (List.mem_of_getElem? (i := 558) (by decide +kernel))) rfl
theorem sl_X6_34 : pm_LS RX6 34 yX6_isDown := ⟨Or.inl tw_557, tw_558⟩
theorem tw_559 : Cond.code yX6_isDown cX6_isDown 3 (some .boolean) ∈ pm_T := pm_in (List.mem_append_right _ (List.mem_of_getElem? (i := 559) (by decide +kernel))) rfl
theorem my_X6_isDown : pm_Y yX6_isDown cX6_isDown 3 (some .boolean) 3 := ⟨tw_559, tw_6, ⟨by decide, by decide⟩, by decide +kernel⟩
theorem tw_560 : Cond.methodLink RX6 38 yX6_lastDown ∈ pm_T := pm_in (List.mem_append_right _ (List.mem_of_getElem? (i := 560) (by decide +kernel))) rfl
theorem tw_561 : Cond.static yX6_lastDown ∈ pm_T := pm_in (List.mem_append_right _ (List.mem_of_getElem? (i := 561) (by decide +kernel))) rfl
theorem sl_X6_38 : pm_LS RX6 38 yX6_lastDown := ⟨Or.inl tw_560, tw_561⟩
theorem tw_562 : Cond.code yX6_lastDown cX6_lastDown 2 (some .int) ∈ pm_T := pm_in (List.mem_append_right _ (List.mem_of_getElem? (i := 562) (by decide +kernel))) rfl
theorem my_X6_lastDown : pm_Y yX6_lastDown cX6_lastDown 2 (some .int) 2 := ⟨tw_562, tw_6, ⟨by decide, by decide⟩, by decide +kernel⟩
theorem tw_575 : Cond.code yX6_caseAt cX6_caseAt 2 (some .int) ∈ pm_T := pm_in (List.mem_append_right _ (List.mem_of_getElem? (i := 575) (by decide +kernel))) rfl
theorem my_X6_caseAt : pm_Y yX6_caseAt cX6_caseAt 2 (some .int) 1 := ⟨tw_575, tw_6, ⟨by decide, by decide⟩, by decide +kernel⟩
theorem tw_583 : Cond.code yX6_bestQuestion cX6_bestQuestion 7 (some .int) ∈ pm_T := pm_in (List.mem_append_right _ (List.mem_of_getElem? (i := 583) (by decide +kernel))) rfl
theorem my_X6_bestQuestion : pm_Y yX6_bestQuestion cX6_bestQuestion 7 (some .int) 0 := ⟨tw_583, tw_6, ⟨by decide, by decide⟩, by decide +kernel⟩
theorem tw_584 : Cond.methodLink RX6 42 yX6_tally ∈ pm_T := pm_in (List.mem_append_right _ (List.mem_of_getElem? (i := 584) (by decide +kernel))) rfl
theorem tw_586 : Cond.instanceMethod yX6_tally ∈ pm_T := pm_in (List.mem_append_right _ (List.mem_of_getElem? (i := 586) (by decide +kernel))) rfl
theorem ts_20 : Cond.selects RX6 yX6_tally yX6_tally ∈ pm_T := pm_in (List.mem_append_left _ (List.mem_of_getElem? (i := 20) (by decide +kernel))) rfl
theorem vl_X6_42 : pm_LV RX6 42 yX6_tally := ⟨tw_584, tw_586, ts_20⟩
theorem fl_X6_15 : pm_FL RX6 15 5 1 := ⟨RX6, TX6, 4, in_X6, rfl, by decide, Or.inl tw_81⟩
theorem tw_589 : Cond.methodLink RX6 46 yJ9_max_7cf53 ∈ pm_T := pm_in (List.mem_append_right _ (List.mem_of_getElem? (i := 589) (by decide +kernel))) rfl
theorem sl_X6_46 : pm_LS RX6 46 yJ9_max_7cf53 := ⟨Or.inl tw_589, tw_399⟩
theorem tw_587 : Cond.code yX6_tally cX6_tally 5 none ∈ pm_T := pm_in (List.mem_append_right _ (List.mem_of_getElem? (i := 587) (by decide +kernel))) rfl
theorem my_X6_tally : pm_Y yX6_tally cX6_tally 5 none 1 := ⟨tw_587, tw_6, ⟨by decide, by decide⟩, by decide +kernel⟩
theorem tw_588 : Cond.methodLink RX6 51 yJ7_fill_53178 ∈ pm_T := pm_in (List.mem_append_right _ (List.mem_of_getElem? (i := 588) (by decide +kernel))) rfl
theorem sl_X6_51 : pm_LS RX6 51 yJ7_fill_53178 := ⟨Or.inl tw_588, tw_37⟩
theorem tw_593 : Cond.code yX6_leftAtMost cX6_leftAtMost 4 (some .int) ∈ pm_T := pm_in (List.mem_append_right _ (List.mem_of_getElem? (i := 593) (by decide +kernel))) rfl
theorem my_X6_leftAtMost : pm_Y yX6_leftAtMost cX6_leftAtMost 4 (some .int) 1 := ⟨tw_593, tw_6, ⟨by decide, by decide⟩, by decide +kernel⟩
theorem tw_131 : Cond.code yX7_init cX7_init 1 none ∈ pm_T := pm_in (List.mem_append_right _ (List.mem_of_getElem? (i := 131) (by decide +kernel))) rfl
theorem tw_8 : Cond.initialized RX7 ∈ pm_T := pm_in (List.mem_append_right _ (List.mem_of_getElem? (i := 8) (by decide +kernel))) rfl
theorem my_X7_init : pm_Y yX7_init cX7_init 1 none 0 := ⟨tw_131, tw_8, ⟨by decide, by decide⟩, by decide +kernel⟩
theorem tw_132 : Cond.methodLink RX7 3 objectInit ∈ pm_T := pm_in (List.mem_append_right _ (List.mem_of_getElem? (i := 132) (by decide +kernel))) rfl
theorem oi_X7_3 : Cond.methodLink RX7 3 objectInit ∈ pm_T ∧ Cond.instanceMethod objectInit ∈ pm_T ∧ Cond.code objectInit ⟨#[0xb1]⟩ 1 none ∈ pm_T := ⟨tw_132, tw_22, tw_23⟩
theorem tw_133 : Cond.fieldLink RX7 9 (TX7 0).1 (TX7 0).2.1 (TX7 0).2.2.1 ∈ pm_T := pm_in (List.mem_append_right _ (List.mem_of_getElem? (i := 133) (by decide +kernel))) rfl
theorem fp_X7_9 : pm_FP RX7 9 6 0 false .int := ⟨RX7, TX7, 6, tyX7, in_X7, rfl, by decide, tw_133, tyX7_ok, nmX7, rfl, by decide +kernel, fun h => by cases h⟩
theorem tw_135 : Cond.fieldLink RX7 15 (TX7 1).1 (TX7 1).2.1 (TX7 1).2.2.1 ∈ pm_T := pm_in (List.mem_append_right _ (List.mem_of_getElem? (i := 135) (by decide +kernel))) rfl
theorem fp_X7_15 : pm_FP RX7 15 6 1 false .int := ⟨RX7, TX7, 6, tyX7, in_X7, rfl, by decide, tw_135, tyX7_ok, nmX7, rfl, by decide +kernel, fun h => by cases h⟩
theorem tw_137 : Cond.fieldLink RX7 18 (TX7 2).1 (TX7 2).2.1 (TX7 2).2.2.1 ∈ pm_T := pm_in (List.mem_append_right _ (List.mem_of_getElem? (i := 137) (by decide +kernel))) rfl
theorem fp_X7_18 : pm_FP RX7 18 6 2 false .int := ⟨RX7, TX7, 6, tyX7, in_X7, rfl, by decide, tw_137, tyX7_ok, nmX7, rfl, by decide +kernel, fun h => by cases h⟩
theorem tw_139 : Cond.fieldLink RX7 21 (TX7 3).1 (TX7 3).2.1 (TX7 3).2.2.1 ∈ pm_T := pm_in (List.mem_append_right _ (List.mem_of_getElem? (i := 139) (by decide +kernel))) rfl
theorem fp_X7_21 : pm_FP RX7 21 6 3 false .int := ⟨RX7, TX7, 6, tyX7, in_X7, rfl, by decide, tw_139, tyX7_ok, nmX7, rfl, by decide +kernel, fun h => by cases h⟩
theorem tw_141 : Cond.fieldLink RX7 24 (TX7 4).1 (TX7 4).2.1 (TX7 4).2.2.1 ∈ pm_T := pm_in (List.mem_append_right _ (List.mem_of_getElem? (i := 141) (by decide +kernel))) rfl
theorem fp_X7_24 : pm_FP RX7 24 6 4 false .int := ⟨RX7, TX7, 6, tyX7, in_X7, rfl, by decide, tw_141, tyX7_ok, nmX7, rfl, by decide +kernel, fun h => by cases h⟩
theorem tw_143 : Cond.fieldLink RX7 27 (TX7 5).1 (TX7 5).2.1 (TX7 5).2.2.1 ∈ pm_T := pm_in (List.mem_append_right _ (List.mem_of_getElem? (i := 143) (by decide +kernel))) rfl
theorem fp_X7_27 : pm_FP RX7 27 6 5 false .int := ⟨RX7, TX7, 6, tyX7, in_X7, rfl, by decide, tw_143, tyX7_ok, nmX7, rfl, by decide +kernel, fun h => by cases h⟩
theorem tw_326 : Cond.code yX7_canBe cX7_canBe 7 (some .boolean) ∈ pm_T := pm_in (List.mem_append_right _ (List.mem_of_getElem? (i := 326) (by decide +kernel))) rfl
theorem my_X7_canBe : pm_Y yX7_canBe cX7_canBe 7 (some .boolean) 3 := ⟨tw_326, tw_8, ⟨by decide, by decide⟩, by decide +kernel⟩
theorem tw_327 : Cond.methodLink RX7 30 yX3_faultPlace ∈ pm_T := pm_in (List.mem_append_right _ (List.mem_of_getElem? (i := 327) (by decide +kernel))) rfl
theorem tw_309 : Cond.instanceMethod yX3_faultPlace ∈ pm_T := pm_in (List.mem_append_right _ (List.mem_of_getElem? (i := 309) (by decide +kernel))) rfl
theorem tw_310 : Cond.selects RX3 yX3_faultPlace yX3_faultPlace ∈ pm_T := pm_in (List.mem_append_right _ (List.mem_of_getElem? (i := 310) (by decide +kernel))) rfl
theorem vl_X7_30 : pm_LV RX7 30 yX3_faultPlace := ⟨tw_327, tw_309, tw_310⟩
theorem tw_328 : Cond.methodLink RX7 36 yX7_begin ∈ pm_T := pm_in (List.mem_append_right _ (List.mem_of_getElem? (i := 328) (by decide +kernel))) rfl
theorem tw_330 : Cond.instanceMethod yX7_begin ∈ pm_T := pm_in (List.mem_append_right _ (List.mem_of_getElem? (i := 330) (by decide +kernel))) rfl
theorem ts_2 : Cond.selects RX7 yX7_begin yX7_begin ∈ pm_T := pm_in (List.mem_append_left _ (List.mem_of_getElem? (i := 2) (by decide +kernel))) rfl
theorem vl_X7_36 : pm_LV RX7 36 yX7_begin := ⟨tw_328, tw_330, ts_2⟩
theorem tw_332 : Cond.methodLink RX7 39 yX2_copyFrom ∈ pm_T := pm_in (List.mem_append_right _ (List.mem_of_getElem? (i := 332) (by decide +kernel))) rfl
theorem tw_333 : Cond.instanceMethod yX2_copyFrom ∈ pm_T := pm_in (List.mem_append_right _ (List.mem_of_getElem? (i := 333) (by decide +kernel))) rfl
theorem tw_334 : Cond.selects RX2 yX2_copyFrom yX2_copyFrom ∈ pm_T := pm_in (List.mem_append_right _ (List.mem_of_getElem? (i := 334) (by decide +kernel))) rfl
theorem vl_X7_39 : pm_LV RX7 39 yX2_copyFrom := ⟨tw_332, tw_333, tw_334⟩
theorem tw_339 : Cond.methodLink RX7 45 yX3_size ∈ pm_T := pm_in (List.mem_append_right _ (List.mem_of_getElem? (i := 339) (by decide +kernel))) rfl
theorem tw_293 : Cond.instanceMethod yX3_size ∈ pm_T := pm_in (List.mem_append_right _ (List.mem_of_getElem? (i := 293) (by decide +kernel))) rfl
theorem tw_294 : Cond.selects RX3 yX3_size yX3_size ∈ pm_T := pm_in (List.mem_append_right _ (List.mem_of_getElem? (i := 294) (by decide +kernel))) rfl
theorem vl_X7_45 : pm_LV RX7 45 yX3_size := ⟨tw_339, tw_293, tw_294⟩
theorem fl_X7_15 : pm_FL RX7 15 6 1 := ⟨RX7, TX7, 6, in_X7, rfl, by decide, Or.inl tw_135⟩
theorem tw_340 : Cond.methodLink RX7 48 yX3_kindAt ∈ pm_T := pm_in (List.mem_append_right _ (List.mem_of_getElem? (i := 340) (by decide +kernel))) rfl
theorem tw_341 : Cond.instanceMethod yX3_kindAt ∈ pm_T := pm_in (List.mem_append_right _ (List.mem_of_getElem? (i := 341) (by decide +kernel))) rfl
theorem tw_342 : Cond.selects RX3 yX3_kindAt yX3_kindAt ∈ pm_T := pm_in (List.mem_append_right _ (List.mem_of_getElem? (i := 342) (by decide +kernel))) rfl
theorem vl_X7_48 : pm_LV RX7 48 yX3_kindAt := ⟨tw_340, tw_341, tw_342⟩
theorem tw_351 : Cond.methodLink RX7 52 yX3_manAt ∈ pm_T := pm_in (List.mem_append_right _ (List.mem_of_getElem? (i := 351) (by decide +kernel))) rfl
theorem tw_352 : Cond.instanceMethod yX3_manAt ∈ pm_T := pm_in (List.mem_append_right _ (List.mem_of_getElem? (i := 352) (by decide +kernel))) rfl
theorem tw_353 : Cond.selects RX3 yX3_manAt yX3_manAt ∈ pm_T := pm_in (List.mem_append_right _ (List.mem_of_getElem? (i := 353) (by decide +kernel))) rfl
theorem vl_X7_52 : pm_LV RX7 52 yX3_manAt := ⟨tw_351, tw_352, tw_353⟩
theorem tw_355 : Cond.methodLink RX7 55 yX3_numberAt ∈ pm_T := pm_in (List.mem_append_right _ (List.mem_of_getElem? (i := 355) (by decide +kernel))) rfl
theorem tw_356 : Cond.instanceMethod yX3_numberAt ∈ pm_T := pm_in (List.mem_append_right _ (List.mem_of_getElem? (i := 356) (by decide +kernel))) rfl
theorem tw_357 : Cond.selects RX3 yX3_numberAt yX3_numberAt ∈ pm_T := pm_in (List.mem_append_right _ (List.mem_of_getElem? (i := 357) (by decide +kernel))) rfl
theorem vl_X7_55 : pm_LV RX7 55 yX3_numberAt := ⟨tw_355, tw_356, tw_357⟩
theorem tw_359 : Cond.methodLink RX7 59 yX7_runAct ∈ pm_T := pm_in (List.mem_append_right _ (List.mem_of_getElem? (i := 359) (by decide +kernel))) rfl
theorem tw_361 : Cond.instanceMethod yX7_runAct ∈ pm_T := pm_in (List.mem_append_right _ (List.mem_of_getElem? (i := 361) (by decide +kernel))) rfl
theorem ts_4 : Cond.selects RX7 yX7_runAct yX7_runAct ∈ pm_T := pm_in (List.mem_append_left _ (List.mem_of_getElem? (i := 4) (by decide +kernel))) rfl
theorem vl_X7_59 : pm_LV RX7 59 yX7_runAct := ⟨tw_359, tw_361, ts_4⟩
theorem tw_434 : Cond.methodLink RX7 63 yX3_lengthOf ∈ pm_T := pm_in (List.mem_append_right _ (List.mem_of_getElem? (i := 434) (by decide +kernel))) rfl
theorem tw_435 : Cond.static yX3_lengthOf ∈ pm_T := pm_in (List.mem_append_right _ (List.mem_of_getElem? (i := 435) (by decide +kernel))) rfl
theorem sl_X7_63 : pm_LS RX7 63 yX3_lengthOf := ⟨Or.inl tw_434, tw_435⟩
theorem tw_331 : Cond.code yX7_begin cX7_begin 1 none ∈ pm_T := pm_in (List.mem_append_right _ (List.mem_of_getElem? (i := 331) (by decide +kernel))) rfl
theorem my_X7_begin : pm_Y yX7_begin cX7_begin 1 none 0 := ⟨tw_331, tw_8, ⟨by decide, by decide⟩, by decide +kernel⟩
theorem tw_362 : Cond.code yX7_runAct cX7_runAct 6 none ∈ pm_T := pm_in (List.mem_append_right _ (List.mem_of_getElem? (i := 362) (by decide +kernel))) rfl
theorem my_X7_runAct : pm_Y yX7_runAct cX7_runAct 6 none 4 := ⟨tw_362, tw_8, ⟨by decide, by decide⟩, by decide +kernel⟩
theorem tw_363 : Cond.methodLink RX7 66 yX2_whyNot ∈ pm_T := pm_in (List.mem_append_right _ (List.mem_of_getElem? (i := 363) (by decide +kernel))) rfl
theorem vl_X7_66 : pm_LV RX7 66 yX2_whyNot := ⟨tw_363, tw_364, tw_365⟩
theorem fl_X7_9 : pm_FL RX7 9 6 0 := ⟨RX7, TX7, 6, in_X7, rfl, by decide, Or.inl tw_133⟩
theorem fl_X7_21 : pm_FL RX7 21 6 3 := ⟨RX7, TX7, 6, in_X7, rfl, by decide, Or.inl tw_139⟩
theorem tw_389 : Cond.methodLink RX7 70 yX2_placeOf ∈ pm_T := pm_in (List.mem_append_right _ (List.mem_of_getElem? (i := 389) (by decide +kernel))) rfl
theorem vl_X7_70 : pm_LV RX7 70 yX2_placeOf := ⟨tw_389, tw_250, tw_251⟩
theorem tw_390 : Cond.methodLink RX7 73 yX2_milesBetween ∈ pm_T := pm_in (List.mem_append_right _ (List.mem_of_getElem? (i := 390) (by decide +kernel))) rfl
theorem vl_X7_73 : pm_LV RX7 73 yX2_milesBetween := ⟨tw_390, tw_237, tw_238⟩
theorem tw_391 : Cond.methodLink RX7 76 yX2_gapMadeBy ∈ pm_T := pm_in (List.mem_append_right _ (List.mem_of_getElem? (i := 391) (by decide +kernel))) rfl
theorem tw_392 : Cond.instanceMethod yX2_gapMadeBy ∈ pm_T := pm_in (List.mem_append_right _ (List.mem_of_getElem? (i := 392) (by decide +kernel))) rfl
theorem tw_393 : Cond.selects RX2 yX2_gapMadeBy yX2_gapMadeBy ∈ pm_T := pm_in (List.mem_append_right _ (List.mem_of_getElem? (i := 393) (by decide +kernel))) rfl
theorem vl_X7_76 : pm_LV RX7 76 yX2_gapMadeBy := ⟨tw_391, tw_392, tw_393⟩
theorem tw_405 : Cond.methodLink RX7 79 yX7_noteGap ∈ pm_T := pm_in (List.mem_append_right _ (List.mem_of_getElem? (i := 405) (by decide +kernel))) rfl
theorem tw_407 : Cond.instanceMethod yX7_noteGap ∈ pm_T := pm_in (List.mem_append_right _ (List.mem_of_getElem? (i := 407) (by decide +kernel))) rfl
theorem ts_9 : Cond.selects RX7 yX7_noteGap yX7_noteGap ∈ pm_T := pm_in (List.mem_append_left _ (List.mem_of_getElem? (i := 9) (by decide +kernel))) rfl
theorem vl_X7_79 : pm_LV RX7 79 yX7_noteGap := ⟨tw_405, tw_407, ts_9⟩
theorem tw_409 : Cond.methodLink RX7 83 yX2_perform ∈ pm_T := pm_in (List.mem_append_right _ (List.mem_of_getElem? (i := 409) (by decide +kernel))) rfl
theorem vl_X7_83 : pm_LV RX7 83 yX2_perform := ⟨tw_409, tw_410, tw_411⟩
theorem tw_408 : Cond.code yX7_noteGap cX7_noteGap 2 none ∈ pm_T := pm_in (List.mem_append_right _ (List.mem_of_getElem? (i := 408) (by decide +kernel))) rfl
theorem my_X7_noteGap : pm_Y yX7_noteGap cX7_noteGap 2 none 1 := ⟨tw_408, tw_8, ⟨by decide, by decide⟩, by decide +kernel⟩
theorem fl_X7_27 : pm_FL RX7 27 6 5 := ⟨RX7, TX7, 6, in_X7, rfl, by decide, Or.inl tw_143⟩
theorem tw_28 : Cond.code yX8_init cX8_init 1 none ∈ pm_T := pm_in (List.mem_append_right _ (List.mem_of_getElem? (i := 28) (by decide +kernel))) rfl
theorem tw_2 : Cond.initialized RX8 ∈ pm_T := pm_in (List.mem_append_right _ (List.mem_of_getElem? (i := 2) (by decide +kernel))) rfl
theorem my_X8_init : pm_Y yX8_init cX8_init 1 none 0 := ⟨tw_28, tw_2, ⟨by decide, by decide⟩, by decide +kernel⟩
theorem tw_29 : Cond.methodLink RX8 1 objectInit ∈ pm_T := pm_in (List.mem_append_right _ (List.mem_of_getElem? (i := 29) (by decide +kernel))) rfl
theorem oi_X8_1 : Cond.methodLink RX8 1 objectInit ∈ pm_T ∧ Cond.instanceMethod objectInit ∈ pm_T ∧ Cond.code objectInit ⟨#[0xb1]⟩ 1 none ∈ pm_T := ⟨tw_29, tw_22, tw_23⟩
theorem tw_30 : Cond.classLink RX8 7 RX2 ∈ pm_T := pm_in (List.mem_append_right _ (List.mem_of_getElem? (i := 30) (by decide +kernel))) rfl
theorem tw_31 : Cond.instantiable RX2 5 ∈ pm_T := pm_in (List.mem_append_right _ (List.mem_of_getElem? (i := 31) (by decide +kernel))) rfl
theorem nw_X8_7 : Cond.classLink RX8 7 RX2 ∈ pm_T ∧ Cond.instantiable RX2 5 ∈ pm_T ∧ Cond.initialized RX2 ∈ pm_T := ⟨tw_30, tw_31, tw_3⟩
theorem tw_32 : Cond.methodLink RX8 9 yX2_init ∈ pm_T := pm_in (List.mem_append_right _ (List.mem_of_getElem? (i := 32) (by decide +kernel))) rfl
theorem tw_33 : Cond.instanceMethod yX2_init ∈ pm_T := pm_in (List.mem_append_right _ (List.mem_of_getElem? (i := 33) (by decide +kernel))) rfl
theorem il_X8_9 : pm_LI RX8 9 yX2_init := ⟨tw_32, tw_33, rfl⟩
theorem tw_95 : Cond.fieldLink RX8 10 (TX8 0).1 (TX8 0).2.1 (TX8 0).2.2.1 ∈ pm_T := pm_in (List.mem_append_right _ (List.mem_of_getElem? (i := 95) (by decide +kernel))) rfl
theorem fp_X8_10 : pm_FP RX8 10 7 0 true (.object "PaleMoor$Moor") := ⟨RX8, TX8, 4, tyX8, in_X8, rfl, by decide, tw_95, tyX8_ok, nmX8, rfl, by decide +kernel, fun _ => rfl⟩
theorem tw_57 : Cond.classLink RX8 16 RX1 ∈ pm_T := pm_in (List.mem_append_right _ (List.mem_of_getElem? (i := 57) (by decide +kernel))) rfl
theorem tw_58 : Cond.instantiable RX1 2 ∈ pm_T := pm_in (List.mem_append_right _ (List.mem_of_getElem? (i := 58) (by decide +kernel))) rfl
theorem nw_X8_16 : Cond.classLink RX8 16 RX1 ∈ pm_T ∧ Cond.instantiable RX1 2 ∈ pm_T ∧ Cond.initialized RX1 ∈ pm_T := ⟨tw_57, tw_58, tw_5⟩
theorem tw_59 : Cond.methodLink RX8 18 yX1_init ∈ pm_T := pm_in (List.mem_append_right _ (List.mem_of_getElem? (i := 59) (by decide +kernel))) rfl
theorem tw_60 : Cond.instanceMethod yX1_init ∈ pm_T := pm_in (List.mem_append_right _ (List.mem_of_getElem? (i := 60) (by decide +kernel))) rfl
theorem il_X8_18 : pm_LI RX8 18 yX1_init := ⟨tw_59, tw_60, rfl⟩
theorem tw_97 : Cond.fieldLink RX8 19 (TX8 1).1 (TX8 1).2.1 (TX8 1).2.2.1 ∈ pm_T := pm_in (List.mem_append_right _ (List.mem_of_getElem? (i := 97) (by decide +kernel))) rfl
theorem fp_X8_19 : pm_FP RX8 19 7 1 true (.object "PaleMoor$Likings") := ⟨RX8, TX8, 4, tyX8, in_X8, rfl, by decide, tw_97, tyX8_ok, nmX8, rfl, by decide +kernel, fun _ => rfl⟩
theorem tw_70 : Cond.classLink RX8 23 RX6 ∈ pm_T := pm_in (List.mem_append_right _ (List.mem_of_getElem? (i := 70) (by decide +kernel))) rfl
theorem tw_71 : Cond.instantiable RX6 4 ∈ pm_T := pm_in (List.mem_append_right _ (List.mem_of_getElem? (i := 71) (by decide +kernel))) rfl
theorem nw_X8_23 : Cond.classLink RX8 23 RX6 ∈ pm_T ∧ Cond.instantiable RX6 4 ∈ pm_T ∧ Cond.initialized RX6 ∈ pm_T := ⟨tw_70, tw_71, tw_6⟩
theorem tw_72 : Cond.methodLink RX8 25 yX6_init ∈ pm_T := pm_in (List.mem_append_right _ (List.mem_of_getElem? (i := 72) (by decide +kernel))) rfl
theorem tw_73 : Cond.instanceMethod yX6_init ∈ pm_T := pm_in (List.mem_append_right _ (List.mem_of_getElem? (i := 73) (by decide +kernel))) rfl
theorem il_X8_25 : pm_LI RX8 25 yX6_init := ⟨tw_72, tw_73, rfl⟩
theorem tw_99 : Cond.fieldLink RX8 26 (TX8 2).1 (TX8 2).2.1 (TX8 2).2.2.1 ∈ pm_T := pm_in (List.mem_append_right _ (List.mem_of_getElem? (i := 99) (by decide +kernel))) rfl
theorem fp_X8_26 : pm_FP RX8 26 7 2 true (.object "PaleMoor$Sights") := ⟨RX8, TX8, 4, tyX8, in_X8, rfl, by decide, tw_99, tyX8_ok, nmX8, rfl, by decide +kernel, fun _ => rfl⟩
theorem tw_101 : Cond.fieldLink RX8 30 (TX8 3).1 (TX8 3).2.1 (TX8 3).2.2.1 ∈ pm_T := pm_in (List.mem_append_right _ (List.mem_of_getElem? (i := 101) (by decide +kernel))) rfl
theorem fp_X8_30 : pm_FP RX8 30 7 3 false .boolean := ⟨RX8, TX8, 4, tyX8, in_X8, rfl, by decide, tw_101, tyX8_ok, nmX8, rfl, by decide +kernel, fun h => by cases h⟩
theorem tw_651 : Cond.code yX8_copyFrom cX8_copyFrom 2 none ∈ pm_T := pm_in (List.mem_append_right _ (List.mem_of_getElem? (i := 651) (by decide +kernel))) rfl
theorem my_X8_copyFrom : pm_Y yX8_copyFrom cX8_copyFrom 2 none 1 := ⟨tw_651, tw_2, ⟨by decide, by decide⟩, by decide +kernel⟩
theorem fl_X8_10 : pm_FL RX8 10 7 0 := ⟨RX8, TX8, 4, in_X8, rfl, by decide, Or.inl tw_95⟩
theorem tw_652 : Cond.methodLink RX8 34 yX2_copyFrom ∈ pm_T := pm_in (List.mem_append_right _ (List.mem_of_getElem? (i := 652) (by decide +kernel))) rfl
theorem vl_X8_34 : pm_LV RX8 34 yX2_copyFrom := ⟨tw_652, tw_333, tw_334⟩
theorem fl_X8_19 : pm_FL RX8 19 7 1 := ⟨RX8, TX8, 4, in_X8, rfl, by decide, Or.inl tw_97⟩
theorem tw_653 : Cond.methodLink RX8 38 yX1_copyFrom ∈ pm_T := pm_in (List.mem_append_right _ (List.mem_of_getElem? (i := 653) (by decide +kernel))) rfl
theorem tw_654 : Cond.instanceMethod yX1_copyFrom ∈ pm_T := pm_in (List.mem_append_right _ (List.mem_of_getElem? (i := 654) (by decide +kernel))) rfl
theorem tw_655 : Cond.selects RX1 yX1_copyFrom yX1_copyFrom ∈ pm_T := pm_in (List.mem_append_right _ (List.mem_of_getElem? (i := 655) (by decide +kernel))) rfl
theorem vl_X8_38 : pm_LV RX8 38 yX1_copyFrom := ⟨tw_653, tw_654, tw_655⟩
theorem fl_X8_26 : pm_FL RX8 26 7 2 := ⟨RX8, TX8, 4, in_X8, rfl, by decide, Or.inl tw_99⟩
theorem tw_658 : Cond.methodLink RX8 41 yX6_copyFrom ∈ pm_T := pm_in (List.mem_append_right _ (List.mem_of_getElem? (i := 658) (by decide +kernel))) rfl
theorem tw_659 : Cond.instanceMethod yX6_copyFrom ∈ pm_T := pm_in (List.mem_append_right _ (List.mem_of_getElem? (i := 659) (by decide +kernel))) rfl
theorem tw_660 : Cond.selects RX6 yX6_copyFrom yX6_copyFrom ∈ pm_T := pm_in (List.mem_append_right _ (List.mem_of_getElem? (i := 660) (by decide +kernel))) rfl
theorem vl_X8_41 : pm_LV RX8 41 yX6_copyFrom := ⟨tw_658, tw_659, tw_660⟩
theorem tw_20 : Cond.code yX9_init cX9_init 1 none ∈ pm_T := pm_in (List.mem_append_right _ (List.mem_of_getElem? (i := 20) (by decide +kernel))) rfl
theorem tw_1 : Cond.initialized RX9 ∈ pm_T := pm_in (List.mem_append_right _ (List.mem_of_getElem? (i := 1) (by decide +kernel))) rfl
theorem my_X9_init : pm_Y yX9_init cX9_init 1 none 0 := ⟨tw_20, tw_1, ⟨by decide, by decide⟩, by decide +kernel⟩
theorem tw_21 : Cond.methodLink RX9 3 objectInit ∈ pm_T := pm_in (List.mem_append_right _ (List.mem_of_getElem? (i := 21) (by decide +kernel))) rfl
theorem oi_X9_3 : Cond.methodLink RX9 3 objectInit ∈ pm_T ∧ Cond.instanceMethod objectInit ∈ pm_T ∧ Cond.code objectInit ⟨#[0xb1]⟩ 1 none ∈ pm_T := ⟨tw_21, tw_22, tw_23⟩
theorem tw_24 : Cond.classLink RX9 9 RX8 ∈ pm_T := pm_in (List.mem_append_right _ (List.mem_of_getElem? (i := 24) (by decide +kernel))) rfl
theorem tw_25 : Cond.instantiable RX8 4 ∈ pm_T := pm_in (List.mem_append_right _ (List.mem_of_getElem? (i := 25) (by decide +kernel))) rfl
theorem nw_X9_9 : Cond.classLink RX9 9 RX8 ∈ pm_T ∧ Cond.instantiable RX8 4 ∈ pm_T ∧ Cond.initialized RX8 ∈ pm_T := ⟨tw_24, tw_25, tw_2⟩
theorem tw_26 : Cond.methodLink RX9 11 yX8_init ∈ pm_T := pm_in (List.mem_append_right _ (List.mem_of_getElem? (i := 26) (by decide +kernel))) rfl
theorem tw_27 : Cond.instanceMethod yX8_init ∈ pm_T := pm_in (List.mem_append_right _ (List.mem_of_getElem? (i := 27) (by decide +kernel))) rfl
theorem il_X9_11 : pm_LI RX9 11 yX8_init := ⟨tw_26, tw_27, rfl⟩
theorem tw_184 : Cond.fieldLink RX9 12 (TX9 0).1 (TX9 0).2.1 (TX9 0).2.2.1 ∈ pm_T := pm_in (List.mem_append_right _ (List.mem_of_getElem? (i := 184) (by decide +kernel))) rfl
theorem fp_X9_12 : pm_FP RX9 12 8 0 true (.object "PaleMoor$Whole") := ⟨RX9, TX9, 8, tyX9, in_X9, rfl, by decide, tw_184, tyX9_ok, nmX9, rfl, by decide +kernel, fun _ => rfl⟩
theorem tw_185 : Cond.fieldLink RX9 16 (TX9 1).1 (TX9 1).2.1 (TX9 1).2.2.1 ∈ pm_T := pm_in (List.mem_append_right _ (List.mem_of_getElem? (i := 185) (by decide +kernel))) rfl
theorem fp_X9_16 : pm_FP RX9 16 8 1 true (.object "PaleMoor$Whole") := ⟨RX9, TX9, 8, tyX9, in_X9, rfl, by decide, tw_185, tyX9_ok, nmX9, rfl, by decide +kernel, fun _ => rfl⟩
theorem tw_186 : Cond.fieldLink RX9 19 (TX9 2).1 (TX9 2).2.1 (TX9 2).2.2.1 ∈ pm_T := pm_in (List.mem_append_right _ (List.mem_of_getElem? (i := 186) (by decide +kernel))) rfl
theorem fp_X9_19 : pm_FP RX9 19 8 2 true (.object "PaleMoor$Whole") := ⟨RX9, TX9, 8, tyX9, in_X9, rfl, by decide, tw_186, tyX9_ok, nmX9, rfl, by decide +kernel, fun _ => rfl⟩
theorem tw_112 : Cond.classLink RX9 22 RX2 ∈ pm_T := pm_in (List.mem_append_right _ (List.mem_of_getElem? (i := 112) (by decide +kernel))) rfl
theorem nw_X9_22 : Cond.classLink RX9 22 RX2 ∈ pm_T ∧ Cond.instantiable RX2 5 ∈ pm_T ∧ Cond.initialized RX2 ∈ pm_T := ⟨tw_112, tw_31, tw_3⟩
theorem tw_113 : Cond.methodLink RX9 24 yX2_init ∈ pm_T := pm_in (List.mem_append_right _ (List.mem_of_getElem? (i := 113) (by decide +kernel))) rfl
theorem il_X9_24 : pm_LI RX9 24 yX2_init := ⟨tw_113, tw_33, rfl⟩
theorem tw_187 : Cond.fieldLink RX9 25 (TX9 3).1 (TX9 3).2.1 (TX9 3).2.2.1 ∈ pm_T := pm_in (List.mem_append_right _ (List.mem_of_getElem? (i := 187) (by decide +kernel))) rfl
theorem fp_X9_25 : pm_FP RX9 25 8 3 true (.object "PaleMoor$Moor") := ⟨RX9, TX9, 8, tyX9, in_X9, rfl, by decide, tw_187, tyX9_ok, nmX9, rfl, by decide +kernel, fun _ => rfl⟩
theorem tw_114 : Cond.classLink RX9 29 RX3 ∈ pm_T := pm_in (List.mem_append_right _ (List.mem_of_getElem? (i := 114) (by decide +kernel))) rfl
theorem tw_115 : Cond.instantiable RX3 2 ∈ pm_T := pm_in (List.mem_append_right _ (List.mem_of_getElem? (i := 115) (by decide +kernel))) rfl
theorem nw_X9_29 : Cond.classLink RX9 29 RX3 ∈ pm_T ∧ Cond.instantiable RX3 2 ∈ pm_T ∧ Cond.initialized RX3 ∈ pm_T := ⟨tw_114, tw_115, tw_7⟩
theorem tw_116 : Cond.methodLink RX9 31 yX3_init ∈ pm_T := pm_in (List.mem_append_right _ (List.mem_of_getElem? (i := 116) (by decide +kernel))) rfl
theorem tw_117 : Cond.instanceMethod yX3_init ∈ pm_T := pm_in (List.mem_append_right _ (List.mem_of_getElem? (i := 117) (by decide +kernel))) rfl
theorem il_X9_31 : pm_LI RX9 31 yX3_init := ⟨tw_116, tw_117, rfl⟩
theorem tw_188 : Cond.fieldLink RX9 32 (TX9 4).1 (TX9 4).2.1 (TX9 4).2.2.1 ∈ pm_T := pm_in (List.mem_append_right _ (List.mem_of_getElem? (i := 188) (by decide +kernel))) rfl
theorem fp_X9_32 : pm_FP RX9 32 8 4 true (.object "PaleMoor$Pad") := ⟨RX9, TX9, 8, tyX9, in_X9, rfl, by decide, tw_188, tyX9_ok, nmX9, rfl, by decide +kernel, fun _ => rfl⟩
theorem tw_127 : Cond.classLink RX9 36 RX7 ∈ pm_T := pm_in (List.mem_append_right _ (List.mem_of_getElem? (i := 127) (by decide +kernel))) rfl
theorem tw_128 : Cond.instantiable RX7 6 ∈ pm_T := pm_in (List.mem_append_right _ (List.mem_of_getElem? (i := 128) (by decide +kernel))) rfl
theorem nw_X9_36 : Cond.classLink RX9 36 RX7 ∈ pm_T ∧ Cond.instantiable RX7 6 ∈ pm_T ∧ Cond.initialized RX7 ∈ pm_T := ⟨tw_127, tw_128, tw_8⟩
theorem tw_129 : Cond.methodLink RX9 38 yX7_init ∈ pm_T := pm_in (List.mem_append_right _ (List.mem_of_getElem? (i := 129) (by decide +kernel))) rfl
theorem tw_130 : Cond.instanceMethod yX7_init ∈ pm_T := pm_in (List.mem_append_right _ (List.mem_of_getElem? (i := 130) (by decide +kernel))) rfl
theorem il_X9_38 : pm_LI RX9 38 yX7_init := ⟨tw_129, tw_130, rfl⟩
theorem tw_189 : Cond.fieldLink RX9 39 (TX9 5).1 (TX9 5).2.1 (TX9 5).2.2.1 ∈ pm_T := pm_in (List.mem_append_right _ (List.mem_of_getElem? (i := 189) (by decide +kernel))) rfl
theorem fp_X9_39 : pm_FP RX9 39 8 5 true (.object "PaleMoor$Weeks") := ⟨RX9, TX9, 8, tyX9, in_X9, rfl, by decide, tw_189, tyX9_ok, nmX9, rfl, by decide +kernel, fun _ => rfl⟩
theorem tw_158 : Cond.classLink RX9 43 RX5 ∈ pm_T := pm_in (List.mem_append_right _ (List.mem_of_getElem? (i := 158) (by decide +kernel))) rfl
theorem tw_159 : Cond.instantiable RX5 2 ∈ pm_T := pm_in (List.mem_append_right _ (List.mem_of_getElem? (i := 159) (by decide +kernel))) rfl
theorem nw_X9_43 : Cond.classLink RX9 43 RX5 ∈ pm_T ∧ Cond.instantiable RX5 2 ∈ pm_T ∧ Cond.initialized RX5 ∈ pm_T := ⟨tw_158, tw_159, tw_9⟩
theorem tw_160 : Cond.methodLink RX9 45 yX5_init ∈ pm_T := pm_in (List.mem_append_right _ (List.mem_of_getElem? (i := 160) (by decide +kernel))) rfl
theorem tw_161 : Cond.instanceMethod yX5_init ∈ pm_T := pm_in (List.mem_append_right _ (List.mem_of_getElem? (i := 161) (by decide +kernel))) rfl
theorem il_X9_45 : pm_LI RX9 45 yX5_init := ⟨tw_160, tw_161, rfl⟩
theorem tw_190 : Cond.fieldLink RX9 46 (TX9 6).1 (TX9 6).2.1 (TX9 6).2.2.1 ∈ pm_T := pm_in (List.mem_append_right _ (List.mem_of_getElem? (i := 190) (by decide +kernel))) rfl
theorem fp_X9_46 : pm_FP RX9 46 8 6 true (.object "PaleMoor$Rounds") := ⟨RX9, TX9, 8, tyX9, in_X9, rfl, by decide, tw_190, tyX9_ok, nmX9, rfl, by decide +kernel, fun _ => rfl⟩
theorem tw_171 : Cond.classLink RX9 50 RX4 ∈ pm_T := pm_in (List.mem_append_right _ (List.mem_of_getElem? (i := 171) (by decide +kernel))) rfl
theorem tw_172 : Cond.instantiable RX4 1 ∈ pm_T := pm_in (List.mem_append_right _ (List.mem_of_getElem? (i := 172) (by decide +kernel))) rfl
theorem nw_X9_50 : Cond.classLink RX9 50 RX4 ∈ pm_T ∧ Cond.instantiable RX4 1 ∈ pm_T ∧ Cond.initialized RX4 ∈ pm_T := ⟨tw_171, tw_172, tw_10⟩
theorem tw_173 : Cond.methodLink RX9 52 yX4_init ∈ pm_T := pm_in (List.mem_append_right _ (List.mem_of_getElem? (i := 173) (by decide +kernel))) rfl
theorem tw_174 : Cond.instanceMethod yX4_init ∈ pm_T := pm_in (List.mem_append_right _ (List.mem_of_getElem? (i := 174) (by decide +kernel))) rfl
theorem il_X9_52 : pm_LI RX9 52 yX4_init := ⟨tw_173, tw_174, rfl⟩
theorem tw_191 : Cond.fieldLink RX9 53 (TX9 7).1 (TX9 7).2.1 (TX9 7).2.2.1 ∈ pm_T := pm_in (List.mem_append_right _ (List.mem_of_getElem? (i := 191) (by decide +kernel))) rfl
theorem fp_X9_53 : pm_FP RX9 53 8 7 true (.object "PaleMoor$Rails") := ⟨RX9, TX9, 8, tyX9, in_X9, rfl, by decide, tw_191, tyX9_ok, nmX9, rfl, by decide +kernel, fun _ => rfl⟩
theorem tw_212 : Cond.code yX9_pale cX9_pale 4 (some .int) ∈ pm_T := pm_in (List.mem_append_right _ (List.mem_of_getElem? (i := 212) (by decide +kernel))) rfl
theorem my_X9_pale : pm_Y yX9_pale cX9_pale 4 (some .int) 3 := ⟨tw_212, tw_1, ⟨by decide, by decide⟩, by decide +kernel⟩
theorem tw_213 : Cond.methodLink RX9 57 yX9_areTwoFarms ∈ pm_T := pm_in (List.mem_append_right _ (List.mem_of_getElem? (i := 213) (by decide +kernel))) rfl
theorem sl_X9_57 : pm_LS RX9 57 yX9_areTwoFarms := ⟨Or.inl tw_213, tw_214⟩
theorem fl_X9_12 : pm_FL RX9 12 8 0 := ⟨RX9, TX9, 8, in_X9, rfl, by decide, Or.inl tw_184⟩
theorem tw_96 : Cond.fieldLinkNest RX9 61 (TX8 0).1 (TX8 0).2.1 (TX8 0).2.2.1 "PaleMoor" ∈ pm_T := pm_in (List.mem_append_right _ (List.mem_of_getElem? (i := 96) (by decide +kernel))) rfl
theorem fl_X9_61 : pm_FL RX9 61 7 0 := ⟨RX8, TX8, 4, in_X8, rfl, by decide, Or.inr ⟨_, tw_96⟩⟩
theorem tw_219 : Cond.methodLink RX9 64 yX2_setStrength ∈ pm_T := pm_in (List.mem_append_right _ (List.mem_of_getElem? (i := 219) (by decide +kernel))) rfl
theorem vl_X9_64 : pm_LV RX9 64 yX2_setStrength := ⟨tw_219, tw_220, tw_221⟩
theorem tw_224 : Cond.methodLink RX9 68 yX2_countPales ∈ pm_T := pm_in (List.mem_append_right _ (List.mem_of_getElem? (i := 224) (by decide +kernel))) rfl
theorem vl_X9_68 : pm_LV RX9 68 yX2_countPales := ⟨tw_224, tw_225, tw_226⟩
theorem tw_235 : Cond.code yX9_road cX9_road 5 (some .int) ∈ pm_T := pm_in (List.mem_append_right _ (List.mem_of_getElem? (i := 235) (by decide +kernel))) rfl
theorem my_X9_road : pm_Y yX9_road cX9_road 5 (some .int) 3 := ⟨tw_235, tw_1, ⟨by decide, by decide⟩, by decide +kernel⟩
theorem tw_236 : Cond.methodLink RX9 72 yX2_milesBetween ∈ pm_T := pm_in (List.mem_append_right _ (List.mem_of_getElem? (i := 236) (by decide +kernel))) rfl
theorem vl_X9_72 : pm_LV RX9 72 yX2_milesBetween := ⟨tw_236, tw_237, tw_238⟩
theorem tw_241 : Cond.methodLink RX9 76 yX2_setMiles ∈ pm_T := pm_in (List.mem_append_right _ (List.mem_of_getElem? (i := 241) (by decide +kernel))) rfl
theorem tw_242 : Cond.instanceMethod yX2_setMiles ∈ pm_T := pm_in (List.mem_append_right _ (List.mem_of_getElem? (i := 242) (by decide +kernel))) rfl
theorem tw_243 : Cond.selects RX2 yX2_setMiles yX2_setMiles ∈ pm_T := pm_in (List.mem_append_right _ (List.mem_of_getElem? (i := 243) (by decide +kernel))) rfl
theorem vl_X9_76 : pm_LV RX9 76 yX2_setMiles := ⟨tw_241, tw_242, tw_243⟩
theorem tw_248 : Cond.code yX9_farm cX9_farm 5 (some .int) ∈ pm_T := pm_in (List.mem_append_right _ (List.mem_of_getElem? (i := 248) (by decide +kernel))) rfl
theorem my_X9_farm : pm_Y yX9_farm cX9_farm 5 (some .int) 3 := ⟨tw_248, tw_1, ⟨by decide, by decide⟩, by decide +kernel⟩
theorem tw_216 : Cond.methodLink RX9 79 yX9_isFarm ∈ pm_T := pm_in (List.mem_append_right _ (List.mem_of_getElem? (i := 216) (by decide +kernel))) rfl
theorem sl_X9_79 : pm_LS RX9 79 yX9_isFarm := ⟨Or.inl tw_216, tw_217⟩
theorem tw_249 : Cond.methodLink RX9 83 yX2_placeOf ∈ pm_T := pm_in (List.mem_append_right _ (List.mem_of_getElem? (i := 249) (by decide +kernel))) rfl
theorem vl_X9_83 : pm_LV RX9 83 yX2_placeOf := ⟨tw_249, tw_250, tw_251⟩
theorem tw_253 : Cond.methodLink RX9 87 yX2_settle ∈ pm_T := pm_in (List.mem_append_right _ (List.mem_of_getElem? (i := 253) (by decide +kernel))) rfl
theorem vl_X9_87 : pm_LV RX9 87 yX2_settle := ⟨tw_253, tw_254, tw_255⟩
theorem tw_260 : Cond.code yX9_likes cX9_likes 5 (some .int) ∈ pm_T := pm_in (List.mem_append_right _ (List.mem_of_getElem? (i := 260) (by decide +kernel))) rfl
theorem my_X9_likes : pm_Y yX9_likes cX9_likes 5 (some .int) 3 := ⟨tw_260, tw_1, ⟨by decide, by decide⟩, by decide +kernel⟩
theorem tw_261 : Cond.methodLink RX9 90 yX9_isOne ∈ pm_T := pm_in (List.mem_append_right _ (List.mem_of_getElem? (i := 261) (by decide +kernel))) rfl
theorem sl_X9_90 : pm_LS RX9 90 yX9_isOne := ⟨Or.inl tw_261, tw_262⟩
theorem tw_267 : Cond.methodLink RX9 93 yX1_isRow ∈ pm_T := pm_in (List.mem_append_right _ (List.mem_of_getElem? (i := 267) (by decide +kernel))) rfl
theorem sl_X9_93 : pm_LS RX9 93 yX1_isRow := ⟨Or.inl tw_267, tw_268⟩
theorem tw_98 : Cond.fieldLinkNest RX9 98 (TX8 1).1 (TX8 1).2.1 (TX8 1).2.2.1 "PaleMoor" ∈ pm_T := pm_in (List.mem_append_right _ (List.mem_of_getElem? (i := 98) (by decide +kernel))) rfl
theorem fl_X9_98 : pm_FL RX9 98 7 1 := ⟨RX8, TX8, 4, in_X8, rfl, by decide, Or.inr ⟨_, tw_98⟩⟩
theorem tw_270 : Cond.methodLink RX9 102 yX1_rowOf ∈ pm_T := pm_in (List.mem_append_right _ (List.mem_of_getElem? (i := 270) (by decide +kernel))) rfl
theorem tw_271 : Cond.instanceMethod yX1_rowOf ∈ pm_T := pm_in (List.mem_append_right _ (List.mem_of_getElem? (i := 271) (by decide +kernel))) rfl
theorem tw_272 : Cond.selects RX1 yX1_rowOf yX1_rowOf ∈ pm_T := pm_in (List.mem_append_right _ (List.mem_of_getElem? (i := 272) (by decide +kernel))) rfl
theorem vl_X9_102 : pm_LV RX9 102 yX1_rowOf := ⟨tw_270, tw_271, tw_272⟩
theorem tw_275 : Cond.methodLink RX9 105 yX1_setRow ∈ pm_T := pm_in (List.mem_append_right _ (List.mem_of_getElem? (i := 275) (by decide +kernel))) rfl
theorem tw_276 : Cond.instanceMethod yX1_setRow ∈ pm_T := pm_in (List.mem_append_right _ (List.mem_of_getElem? (i := 276) (by decide +kernel))) rfl
theorem tw_277 : Cond.selects RX1 yX1_setRow yX1_setRow ∈ pm_T := pm_in (List.mem_append_right _ (List.mem_of_getElem? (i := 277) (by decide +kernel))) rfl
theorem vl_X9_105 : pm_LV RX9 105 yX1_setRow := ⟨tw_275, tw_276, tw_277⟩
theorem tw_287 : Cond.code yX9_say cX9_say 2 (some .int) ∈ pm_T := pm_in (List.mem_append_right _ (List.mem_of_getElem? (i := 287) (by decide +kernel))) rfl
theorem my_X9_say : pm_Y yX9_say cX9_say 2 (some .int) 1 := ⟨tw_287, tw_1, ⟨by decide, by decide⟩, by decide +kernel⟩
theorem fl_X9_32 : pm_FL RX9 32 8 4 := ⟨RX9, TX9, 8, in_X9, rfl, by decide, Or.inl tw_188⟩
theorem tw_288 : Cond.methodLink RX9 108 yX3_add ∈ pm_T := pm_in (List.mem_append_right _ (List.mem_of_getElem? (i := 288) (by decide +kernel))) rfl
theorem tw_289 : Cond.instanceMethod yX3_add ∈ pm_T := pm_in (List.mem_append_right _ (List.mem_of_getElem? (i := 289) (by decide +kernel))) rfl
theorem tw_290 : Cond.selects RX3 yX3_add yX3_add ∈ pm_T := pm_in (List.mem_append_right _ (List.mem_of_getElem? (i := 290) (by decide +kernel))) rfl
theorem vl_X9_108 : pm_LV RX9 108 yX3_add := ⟨tw_288, tw_289, tw_290⟩
theorem tw_292 : Cond.methodLink RX9 111 yX3_size ∈ pm_T := pm_in (List.mem_append_right _ (List.mem_of_getElem? (i := 292) (by decide +kernel))) rfl
theorem vl_X9_111 : pm_LV RX9 111 yX3_size := ⟨tw_292, tw_293, tw_294⟩
theorem tw_299 : Cond.code yX9_wipe cX9_wipe 2 (some .int) ∈ pm_T := pm_in (List.mem_append_right _ (List.mem_of_getElem? (i := 299) (by decide +kernel))) rfl
theorem my_X9_wipe : pm_Y yX9_wipe cX9_wipe 2 (some .int) 0 := ⟨tw_299, tw_1, ⟨by decide, by decide⟩, by decide +kernel⟩
theorem tw_300 : Cond.methodLink RX9 114 yX3_clear ∈ pm_T := pm_in (List.mem_append_right _ (List.mem_of_getElem? (i := 300) (by decide +kernel))) rfl
theorem tw_301 : Cond.instanceMethod yX3_clear ∈ pm_T := pm_in (List.mem_append_right _ (List.mem_of_getElem? (i := 301) (by decide +kernel))) rfl
theorem tw_302 : Cond.selects RX3 yX3_clear yX3_clear ∈ pm_T := pm_in (List.mem_append_right _ (List.mem_of_getElem? (i := 302) (by decide +kernel))) rfl
theorem vl_X9_114 : pm_LV RX9 114 yX3_clear := ⟨tw_300, tw_301, tw_302⟩
theorem tw_307 : Cond.code yX9_fault cX9_fault 1 (some .int) ∈ pm_T := pm_in (List.mem_append_right _ (List.mem_of_getElem? (i := 307) (by decide +kernel))) rfl
theorem my_X9_fault : pm_Y yX9_fault cX9_fault 1 (some .int) 0 := ⟨tw_307, tw_1, ⟨by decide, by decide⟩, by decide +kernel⟩
theorem tw_308 : Cond.methodLink RX9 117 yX3_faultPlace ∈ pm_T := pm_in (List.mem_append_right _ (List.mem_of_getElem? (i := 308) (by decide +kernel))) rfl
theorem vl_X9_117 : pm_LV RX9 117 yX3_faultPlace := ⟨tw_308, tw_309, tw_310⟩
theorem tw_322 : Cond.code yX9_judge cX9_judge 2 (some .int) ∈ pm_T := pm_in (List.mem_append_right _ (List.mem_of_getElem? (i := 322) (by decide +kernel))) rfl
theorem my_X9_judge : pm_Y yX9_judge cX9_judge 2 (some .int) 1 := ⟨tw_322, tw_1, ⟨by decide, by decide⟩, by decide +kernel⟩
theorem tw_264 : Cond.methodLink RX9 120 yX9_isZeroOrOne ∈ pm_T := pm_in (List.mem_append_right _ (List.mem_of_getElem? (i := 264) (by decide +kernel))) rfl
theorem tw_265 : Cond.static yX9_isZeroOrOne ∈ pm_T := pm_in (List.mem_append_right _ (List.mem_of_getElem? (i := 265) (by decide +kernel))) rfl
theorem sl_X9_120 : pm_LS RX9 120 yX9_isZeroOrOne := ⟨Or.inl tw_264, tw_265⟩
theorem fl_X9_39 : pm_FL RX9 39 8 5 := ⟨RX9, TX9, 8, in_X9, rfl, by decide, Or.inl tw_189⟩
theorem fl_X9_25 : pm_FL RX9 25 8 3 := ⟨RX9, TX9, 8, in_X9, rfl, by decide, Or.inl tw_187⟩
theorem tw_323 : Cond.methodLink RX9 123 yX7_canBe ∈ pm_T := pm_in (List.mem_append_right _ (List.mem_of_getElem? (i := 323) (by decide +kernel))) rfl
theorem tw_324 : Cond.instanceMethod yX7_canBe ∈ pm_T := pm_in (List.mem_append_right _ (List.mem_of_getElem? (i := 324) (by decide +kernel))) rfl
theorem tw_325 : Cond.selects RX7 yX7_canBe yX7_canBe ∈ pm_T := pm_in (List.mem_append_right _ (List.mem_of_getElem? (i := 325) (by decide +kernel))) rfl
theorem vl_X9_123 : pm_LV RX9 123 yX7_canBe := ⟨tw_323, tw_324, tw_325⟩
theorem tw_136 : Cond.fieldLinkNest RX9 127 (TX7 1).1 (TX7 1).2.1 (TX7 1).2.2.1 "PaleMoor" ∈ pm_T := pm_in (List.mem_append_right _ (List.mem_of_getElem? (i := 136) (by decide +kernel))) rfl
theorem fl_X9_127 : pm_FL RX9 127 6 1 := ⟨RX7, TX7, 6, in_X7, rfl, by decide, Or.inr ⟨_, tw_136⟩⟩
theorem tw_138 : Cond.fieldLinkNest RX9 131 (TX7 2).1 (TX7 2).2.1 (TX7 2).2.2.1 "PaleMoor" ∈ pm_T := pm_in (List.mem_append_right _ (List.mem_of_getElem? (i := 138) (by decide +kernel))) rfl
theorem fl_X9_131 : pm_FL RX9 131 6 2 := ⟨RX7, TX7, 6, in_X7, rfl, by decide, Or.inr ⟨_, tw_138⟩⟩
theorem tw_440 : Cond.code yX9_done cX9_done 1 (some .int) ∈ pm_T := pm_in (List.mem_append_right _ (List.mem_of_getElem? (i := 440) (by decide +kernel))) rfl
theorem my_X9_done : pm_Y yX9_done cX9_done 1 (some .int) 0 := ⟨tw_440, tw_1, ⟨by decide, by decide⟩, by decide +kernel⟩
theorem tw_441 : Cond.methodLink RX9 134 yX2_copyFrom ∈ pm_T := pm_in (List.mem_append_right _ (List.mem_of_getElem? (i := 441) (by decide +kernel))) rfl
theorem vl_X9_134 : pm_LV RX9 134 yX2_copyFrom := ⟨tw_441, tw_333, tw_334⟩
theorem tw_134 : Cond.fieldLinkNest RX9 138 (TX7 0).1 (TX7 0).2.1 (TX7 0).2.2.1 "PaleMoor" ∈ pm_T := pm_in (List.mem_append_right _ (List.mem_of_getElem? (i := 134) (by decide +kernel))) rfl
theorem fl_X9_138 : pm_FL RX9 138 6 0 := ⟨RX7, TX7, 6, in_X7, rfl, by decide, Or.inr ⟨_, tw_134⟩⟩
theorem tw_445 : Cond.code yX9_behind cX9_behind 3 (some .int) ∈ pm_T := pm_in (List.mem_append_right _ (List.mem_of_getElem? (i := 445) (by decide +kernel))) rfl
theorem my_X9_behind : pm_Y yX9_behind cX9_behind 3 (some .int) 2 := ⟨tw_445, tw_1, ⟨by decide, by decide⟩, by decide +kernel⟩
theorem tw_446 : Cond.methodLink RX9 141 yX2_strengthBetween ∈ pm_T := pm_in (List.mem_append_right _ (List.mem_of_getElem? (i := 446) (by decide +kernel))) rfl
theorem vl_X9_141 : pm_LV RX9 141 yX2_strengthBetween := ⟨tw_446, tw_378, tw_379⟩
theorem tw_450 : Cond.code yX9_goes cX9_goes 3 (some .int) ∈ pm_T := pm_in (List.mem_append_right _ (List.mem_of_getElem? (i := 450) (by decide +kernel))) rfl
theorem my_X9_goes : pm_Y yX9_goes cX9_goes 3 (some .int) 2 := ⟨tw_450, tw_1, ⟨by decide, by decide⟩, by decide +kernel⟩
theorem tw_451 : Cond.methodLink RX9 144 yX2_cowsOf ∈ pm_T := pm_in (List.mem_append_right _ (List.mem_of_getElem? (i := 451) (by decide +kernel))) rfl
theorem vl_X9_144 : pm_LV RX9 144 yX2_cowsOf := ⟨tw_451, tw_414, tw_415⟩
theorem tw_455 : Cond.code yX9_then cX9_then 2 (some .int) ∈ pm_T := pm_in (List.mem_append_right _ (List.mem_of_getElem? (i := 455) (by decide +kernel))) rfl
theorem my_X9_then : pm_Y yX9_then cX9_then 2 (some .int) 1 := ⟨tw_455, tw_1, ⟨by decide, by decide⟩, by decide +kernel⟩
theorem tw_456 : Cond.methodLink RX9 147 yX2_countGaps ∈ pm_T := pm_in (List.mem_append_right _ (List.mem_of_getElem? (i := 456) (by decide +kernel))) rfl
theorem tw_457 : Cond.instanceMethod yX2_countGaps ∈ pm_T := pm_in (List.mem_append_right _ (List.mem_of_getElem? (i := 457) (by decide +kernel))) rfl
theorem tw_458 : Cond.selects RX2 yX2_countGaps yX2_countGaps ∈ pm_T := pm_in (List.mem_append_right _ (List.mem_of_getElem? (i := 458) (by decide +kernel))) rfl
theorem vl_X9_147 : pm_LV RX9 147 yX2_countGaps := ⟨tw_456, tw_457, tw_458⟩
theorem tw_140 : Cond.fieldLinkNest RX9 150 (TX7 3).1 (TX7 3).2.1 (TX7 3).2.2.1 "PaleMoor" ∈ pm_T := pm_in (List.mem_append_right _ (List.mem_of_getElem? (i := 140) (by decide +kernel))) rfl
theorem fl_X9_150 : pm_FL RX9 150 6 3 := ⟨RX7, TX7, 6, in_X7, rfl, by decide, Or.inr ⟨_, tw_140⟩⟩
theorem tw_460 : Cond.methodLink RX9 153 yX2_awayBits ∈ pm_T := pm_in (List.mem_append_right _ (List.mem_of_getElem? (i := 460) (by decide +kernel))) rfl
theorem tw_461 : Cond.instanceMethod yX2_awayBits ∈ pm_T := pm_in (List.mem_append_right _ (List.mem_of_getElem? (i := 461) (by decide +kernel))) rfl
theorem tw_462 : Cond.selects RX2 yX2_awayBits yX2_awayBits ∈ pm_T := pm_in (List.mem_append_right _ (List.mem_of_getElem? (i := 462) (by decide +kernel))) rfl
theorem vl_X9_153 : pm_LV RX9 153 yX2_awayBits := ⟨tw_460, tw_461, tw_462⟩
theorem tw_44 : Cond.fieldLinkNest RX9 156 (TX2 4).1 (TX2 4).2.1 (TX2 4).2.2.1 "PaleMoor" ∈ pm_T := pm_in (List.mem_append_right _ (List.mem_of_getElem? (i := 44) (by decide +kernel))) rfl
theorem fl_X9_156 : pm_FL RX9 156 1 4 := ⟨RX2, TX2, 5, in_X2, rfl, by decide, Or.inr ⟨_, tw_44⟩⟩
theorem tw_142 : Cond.fieldLinkNest RX9 159 (TX7 4).1 (TX7 4).2.1 (TX7 4).2.2.1 "PaleMoor" ∈ pm_T := pm_in (List.mem_append_right _ (List.mem_of_getElem? (i := 142) (by decide +kernel))) rfl
theorem fl_X9_159 : pm_FL RX9 159 6 4 := ⟨RX7, TX7, 6, in_X7, rfl, by decide, Or.inr ⟨_, tw_142⟩⟩
theorem tw_144 : Cond.fieldLinkNest RX9 162 (TX7 5).1 (TX7 5).2.1 (TX7 5).2.2.1 "PaleMoor" ∈ pm_T := pm_in (List.mem_append_right _ (List.mem_of_getElem? (i := 144) (by decide +kernel))) rfl
theorem fl_X9_162 : pm_FL RX9 162 6 5 := ⟨RX7, TX7, 6, in_X7, rfl, by decide, Or.inr ⟨_, tw_144⟩⟩
theorem tw_467 : Cond.code yX9_round cX9_round 3 (some .int) ∈ pm_T := pm_in (List.mem_append_right _ (List.mem_of_getElem? (i := 467) (by decide +kernel))) rfl
theorem my_X9_round : pm_Y yX9_round cX9_round 3 (some .int) 2 := ⟨tw_467, tw_1, ⟨by decide, by decide⟩, by decide +kernel⟩
theorem fl_X9_46 : pm_FL RX9 46 8 6 := ⟨RX9, TX9, 8, in_X9, rfl, by decide, Or.inl tw_190⟩
theorem tw_468 : Cond.methodLink RX9 165 yX5_measure ∈ pm_T := pm_in (List.mem_append_right _ (List.mem_of_getElem? (i := 468) (by decide +kernel))) rfl
theorem tw_469 : Cond.instanceMethod yX5_measure ∈ pm_T := pm_in (List.mem_append_right _ (List.mem_of_getElem? (i := 469) (by decide +kernel))) rfl
theorem tw_470 : Cond.selects RX5 yX5_measure yX5_measure ∈ pm_T := pm_in (List.mem_append_right _ (List.mem_of_getElem? (i := 470) (by decide +kernel))) rfl
theorem vl_X9_165 : pm_LV RX9 165 yX5_measure := ⟨tw_468, tw_469, tw_470⟩
theorem tw_477 : Cond.methodLink RX9 168 yX5_between ∈ pm_T := pm_in (List.mem_append_right _ (List.mem_of_getElem? (i := 477) (by decide +kernel))) rfl
theorem tw_478 : Cond.instanceMethod yX5_between ∈ pm_T := pm_in (List.mem_append_right _ (List.mem_of_getElem? (i := 478) (by decide +kernel))) rfl
theorem tw_479 : Cond.selects RX5 yX5_between yX5_between ∈ pm_T := pm_in (List.mem_append_right _ (List.mem_of_getElem? (i := 479) (by decide +kernel))) rfl
theorem vl_X9_168 : pm_LV RX9 168 yX5_between := ⟨tw_477, tw_478, tw_479⟩
theorem tw_488 : Cond.code yX9_mends cX9_mends 2 (some .int) ∈ pm_T := pm_in (List.mem_append_right _ (List.mem_of_getElem? (i := 488) (by decide +kernel))) rfl
theorem my_X9_mends : pm_Y yX9_mends cX9_mends 2 (some .int) 1 := ⟨tw_488, tw_1, ⟨by decide, by decide⟩, by decide +kernel⟩
theorem tw_489 : Cond.methodLink RX9 171 yX2_toBeMended ∈ pm_T := pm_in (List.mem_append_right _ (List.mem_of_getElem? (i := 489) (by decide +kernel))) rfl
theorem tw_490 : Cond.instanceMethod yX2_toBeMended ∈ pm_T := pm_in (List.mem_append_right _ (List.mem_of_getElem? (i := 490) (by decide +kernel))) rfl
theorem tw_491 : Cond.selects RX2 yX2_toBeMended yX2_toBeMended ∈ pm_T := pm_in (List.mem_append_right _ (List.mem_of_getElem? (i := 491) (by decide +kernel))) rfl
theorem vl_X9_171 : pm_LV RX9 171 yX2_toBeMended := ⟨tw_489, tw_490, tw_491⟩
theorem tw_493 : Cond.methodLink RX9 174 yX5_tour ∈ pm_T := pm_in (List.mem_append_right _ (List.mem_of_getElem? (i := 493) (by decide +kernel))) rfl
theorem tw_494 : Cond.instanceMethod yX5_tour ∈ pm_T := pm_in (List.mem_append_right _ (List.mem_of_getElem? (i := 494) (by decide +kernel))) rfl
theorem tw_495 : Cond.selects RX5 yX5_tour yX5_tour ∈ pm_T := pm_in (List.mem_append_right _ (List.mem_of_getElem? (i := 495) (by decide +kernel))) rfl
theorem vl_X9_174 : pm_LV RX9 174 yX5_tour := ⟨tw_493, tw_494, tw_495⟩
theorem tw_510 : Cond.code yX9_steady cX9_steady 1 (some .int) ∈ pm_T := pm_in (List.mem_append_right _ (List.mem_of_getElem? (i := 510) (by decide +kernel))) rfl
theorem my_X9_steady : pm_Y yX9_steady cX9_steady 1 (some .int) 0 := ⟨tw_510, tw_1, ⟨by decide, by decide⟩, by decide +kernel⟩
theorem tw_511 : Cond.methodLink RX9 177 yX1_countSteady ∈ pm_T := pm_in (List.mem_append_right _ (List.mem_of_getElem? (i := 511) (by decide +kernel))) rfl
theorem tw_512 : Cond.instanceMethod yX1_countSteady ∈ pm_T := pm_in (List.mem_append_right _ (List.mem_of_getElem? (i := 512) (by decide +kernel))) rfl
theorem tw_513 : Cond.selects RX1 yX1_countSteady yX1_countSteady ∈ pm_T := pm_in (List.mem_append_right _ (List.mem_of_getElem? (i := 513) (by decide +kernel))) rfl
theorem vl_X9_177 : pm_LV RX9 177 yX1_countSteady := ⟨tw_511, tw_512, tw_513⟩
theorem tw_539 : Cond.code yX9_wed cX9_wed 4 (some .int) ∈ pm_T := pm_in (List.mem_append_right _ (List.mem_of_getElem? (i := 539) (by decide +kernel))) rfl
theorem my_X9_wed : pm_Y yX9_wed cX9_wed 4 (some .int) 3 := ⟨tw_539, tw_1, ⟨by decide, by decide⟩, by decide +kernel⟩
theorem tw_540 : Cond.methodLink RX9 180 yX1_bestSteady ∈ pm_T := pm_in (List.mem_append_right _ (List.mem_of_getElem? (i := 540) (by decide +kernel))) rfl
theorem tw_541 : Cond.instanceMethod yX1_bestSteady ∈ pm_T := pm_in (List.mem_append_right _ (List.mem_of_getElem? (i := 541) (by decide +kernel))) rfl
theorem tw_542 : Cond.selects RX1 yX1_bestSteady yX1_bestSteady ∈ pm_T := pm_in (List.mem_append_right _ (List.mem_of_getElem? (i := 542) (by decide +kernel))) rfl
theorem vl_X9_180 : pm_LV RX9 180 yX1_bestSteady := ⟨tw_540, tw_541, tw_542⟩
theorem tw_548 : Cond.methodLink RX9 183 yX1_partnerIn ∈ pm_T := pm_in (List.mem_append_right _ (List.mem_of_getElem? (i := 548) (by decide +kernel))) rfl
theorem sl_X9_183 : pm_LS RX9 183 yX1_partnerIn := ⟨Or.inl tw_548, tw_534⟩
theorem tw_552 : Cond.code yX9_seen cX9_seen 4 (some .int) ∈ pm_T := pm_in (List.mem_append_right _ (List.mem_of_getElem? (i := 552) (by decide +kernel))) rfl
theorem my_X9_seen : pm_Y yX9_seen cX9_seen 4 (some .int) 3 := ⟨tw_552, tw_1, ⟨by decide, by decide⟩, by decide +kernel⟩
theorem tw_100 : Cond.fieldLinkNest RX9 187 (TX8 2).1 (TX8 2).2.1 (TX8 2).2.2.1 "PaleMoor" ∈ pm_T := pm_in (List.mem_append_right _ (List.mem_of_getElem? (i := 100) (by decide +kernel))) rfl
theorem fl_X9_187 : pm_FL RX9 187 7 2 := ⟨RX8, TX8, 4, in_X8, rfl, by decide, Or.inr ⟨_, tw_100⟩⟩
theorem tw_553 : Cond.methodLink RX9 191 yX6_add ∈ pm_T := pm_in (List.mem_append_right _ (List.mem_of_getElem? (i := 553) (by decide +kernel))) rfl
theorem tw_554 : Cond.instanceMethod yX6_add ∈ pm_T := pm_in (List.mem_append_right _ (List.mem_of_getElem? (i := 554) (by decide +kernel))) rfl
theorem tw_555 : Cond.selects RX6 yX6_add yX6_add ∈ pm_T := pm_in (List.mem_append_right _ (List.mem_of_getElem? (i := 555) (by decide +kernel))) rfl
theorem vl_X9_191 : pm_LV RX9 191 yX6_add := ⟨tw_553, tw_554, tw_555⟩
theorem tw_85 : Cond.fieldLinkNest RX9 196 (TX6 3).1 (TX6 3).2.1 (TX6 3).2.2.1 "PaleMoor" ∈ pm_T := pm_in (List.mem_append_right _ (List.mem_of_getElem? (i := 85) (by decide +kernel))) rfl
theorem fl_X9_196 : pm_FL RX9 196 5 3 := ⟨RX6, TX6, 4, in_X6, rfl, by decide, Or.inr ⟨_, tw_85⟩⟩
theorem tw_566 : Cond.code yX9_forget cX9_forget 2 (some .int) ∈ pm_T := pm_in (List.mem_append_right _ (List.mem_of_getElem? (i := 566) (by decide +kernel))) rfl
theorem my_X9_forget : pm_Y yX9_forget cX9_forget 2 (some .int) 0 := ⟨tw_566, tw_1, ⟨by decide, by decide⟩, by decide +kernel⟩
theorem tw_567 : Cond.methodLink RX9 199 yX6_clear ∈ pm_T := pm_in (List.mem_append_right _ (List.mem_of_getElem? (i := 567) (by decide +kernel))) rfl
theorem vl_X9_199 : pm_LV RX9 199 yX6_clear := ⟨tw_567, tw_77, tw_78⟩
theorem tw_571 : Cond.code yX9_posts cX9_posts 2 (some .int) ∈ pm_T := pm_in (List.mem_append_right _ (List.mem_of_getElem? (i := 571) (by decide +kernel))) rfl
theorem my_X9_posts : pm_Y yX9_posts cX9_posts 2 (some .int) 1 := ⟨tw_571, tw_1, ⟨by decide, by decide⟩, by decide +kernel⟩
theorem tw_83 : Cond.fieldLinkNest RX9 200 (TX6 2).1 (TX6 2).2.1 (TX6 2).2.2.1 "PaleMoor" ∈ pm_T := pm_in (List.mem_append_right _ (List.mem_of_getElem? (i := 83) (by decide +kernel))) rfl
theorem fl_X9_200 : pm_FL RX9 200 5 2 := ⟨RX6, TX6, 4, in_X6, rfl, by decide, Or.inr ⟨_, tw_83⟩⟩
theorem tw_572 : Cond.methodLink RX9 203 yX6_caseAt ∈ pm_T := pm_in (List.mem_append_right _ (List.mem_of_getElem? (i := 572) (by decide +kernel))) rfl
theorem tw_573 : Cond.instanceMethod yX6_caseAt ∈ pm_T := pm_in (List.mem_append_right _ (List.mem_of_getElem? (i := 573) (by decide +kernel))) rfl
theorem tw_574 : Cond.selects RX6 yX6_caseAt yX6_caseAt ∈ pm_T := pm_in (List.mem_append_right _ (List.mem_of_getElem? (i := 574) (by decide +kernel))) rfl
theorem vl_X9_203 : pm_LV RX9 203 yX6_caseAt := ⟨tw_572, tw_573, tw_574⟩
theorem tw_579 : Cond.code yX9_ask cX9_ask 3 (some .int) ∈ pm_T := pm_in (List.mem_append_right _ (List.mem_of_getElem? (i := 579) (by decide +kernel))) rfl
theorem my_X9_ask : pm_Y yX9_ask cX9_ask 3 (some .int) 1 := ⟨tw_579, tw_1, ⟨by decide, by decide⟩, by decide +kernel⟩
theorem tw_580 : Cond.methodLink RX9 206 yX6_bestQuestion ∈ pm_T := pm_in (List.mem_append_right _ (List.mem_of_getElem? (i := 580) (by decide +kernel))) rfl
theorem tw_581 : Cond.instanceMethod yX6_bestQuestion ∈ pm_T := pm_in (List.mem_append_right _ (List.mem_of_getElem? (i := 581) (by decide +kernel))) rfl
theorem tw_582 : Cond.selects RX6 yX6_bestQuestion yX6_bestQuestion ∈ pm_T := pm_in (List.mem_append_right _ (List.mem_of_getElem? (i := 582) (by decide +kernel))) rfl
theorem vl_X9_206 : pm_LV RX9 206 yX6_bestQuestion := ⟨tw_580, tw_581, tw_582⟩
theorem tw_590 : Cond.methodLink RX9 209 yX6_leftAtMost ∈ pm_T := pm_in (List.mem_append_right _ (List.mem_of_getElem? (i := 590) (by decide +kernel))) rfl
theorem tw_591 : Cond.instanceMethod yX6_leftAtMost ∈ pm_T := pm_in (List.mem_append_right _ (List.mem_of_getElem? (i := 591) (by decide +kernel))) rfl
theorem tw_592 : Cond.selects RX6 yX6_leftAtMost yX6_leftAtMost ∈ pm_T := pm_in (List.mem_append_right _ (List.mem_of_getElem? (i := 592) (by decide +kernel))) rfl
theorem vl_X9_209 : pm_LV RX9 209 yX6_leftAtMost := ⟨tw_590, tw_591, tw_592⟩
theorem tw_597 : Cond.code yX9_heaps cX9_heaps 4 (some .int) ∈ pm_T := pm_in (List.mem_append_right _ (List.mem_of_getElem? (i := 597) (by decide +kernel))) rfl
theorem my_X9_heaps : pm_Y yX9_heaps cX9_heaps 4 (some .int) 2 := ⟨tw_597, tw_1, ⟨by decide, by decide⟩, by decide +kernel⟩
theorem fl_X9_53 : pm_FL RX9 53 8 7 := ⟨RX9, TX9, 8, in_X9, rfl, by decide, Or.inl tw_191⟩
theorem tw_598 : Cond.methodLink RX9 212 yX4_winningLess ∈ pm_T := pm_in (List.mem_append_right _ (List.mem_of_getElem? (i := 598) (by decide +kernel))) rfl
theorem tw_599 : Cond.instanceMethod yX4_winningLess ∈ pm_T := pm_in (List.mem_append_right _ (List.mem_of_getElem? (i := 599) (by decide +kernel))) rfl
theorem tw_600 : Cond.selects RX4 yX4_winningLess yX4_winningLess ∈ pm_T := pm_in (List.mem_append_right _ (List.mem_of_getElem? (i := 600) (by decide +kernel))) rfl
theorem vl_X9_212 : pm_LV RX9 212 yX4_winningLess := ⟨tw_598, tw_599, tw_600⟩
theorem tw_605 : Cond.code yX9_gust cX9_gust 9 (some .long) ∈ pm_T := pm_in (List.mem_append_right _ (List.mem_of_getElem? (i := 605) (by decide +kernel))) rfl
theorem my_X9_gust : pm_Y yX9_gust cX9_gust 9 (some .long) 5 := ⟨tw_605, tw_1, ⟨by decide, by decide⟩, by decide +kernel⟩
theorem tw_606 : Cond.constantLong RX9 215 (-1000000000000000002) ∈ pm_T := pm_in (List.mem_append_right _ (List.mem_of_getElem? (i := 606) (by decide +kernel))) rfl
theorem kc_X9_215 : Cond.constantLong RX9 215 (-1000000000000000002) ∈ pm_T := tw_606
theorem tw_607 : Cond.methodLink RX9 217 yX0_waysOfJust ∈ pm_T := pm_in (List.mem_append_right _ (List.mem_of_getElem? (i := 607) (by decide +kernel))) rfl
theorem sl_X9_217 : pm_LS RX9 217 yX0_waysOfJust := ⟨Or.inl tw_607, tw_608⟩
theorem tw_613 : Cond.methodLink RX9 223 yX0_sumOfStrongest ∈ pm_T := pm_in (List.mem_append_right _ (List.mem_of_getElem? (i := 613) (by decide +kernel))) rfl
theorem tw_614 : Cond.static yX0_sumOfStrongest ∈ pm_T := pm_in (List.mem_append_right _ (List.mem_of_getElem? (i := 614) (by decide +kernel))) rfl
theorem sl_X9_223 : pm_LS RX9 223 yX0_sumOfStrongest := ⟨Or.inl tw_613, tw_614⟩
theorem tw_617 : Cond.methodLink RX9 226 yX0_power ∈ pm_T := pm_in (List.mem_append_right _ (List.mem_of_getElem? (i := 617) (by decide +kernel))) rfl
theorem sl_X9_226 : pm_LS RX9 226 yX0_power := ⟨Or.inl tw_617, tw_611⟩
theorem tw_618 : Cond.methodLink RX9 229 yX0_partInLowestTerms ∈ pm_T := pm_in (List.mem_append_right _ (List.mem_of_getElem? (i := 618) (by decide +kernel))) rfl
theorem tw_619 : Cond.static yX0_partInLowestTerms ∈ pm_T := pm_in (List.mem_append_right _ (List.mem_of_getElem? (i := 619) (by decide +kernel))) rfl
theorem sl_X9_229 : pm_LS RX9 229 yX0_partInLowestTerms := ⟨Or.inl tw_618, tw_619⟩
theorem tw_627 : Cond.code yX9_year cX9_year 5 (some .int) ∈ pm_T := pm_in (List.mem_append_right _ (List.mem_of_getElem? (i := 627) (by decide +kernel))) rfl
theorem my_X9_year : pm_Y yX9_year cX9_year 5 (some .int) 3 := ⟨tw_627, tw_1, ⟨by decide, by decide⟩, by decide +kernel⟩
theorem tw_628 : Cond.methodLink RX9 233 yX2_drawActs ∈ pm_T := pm_in (List.mem_append_right _ (List.mem_of_getElem? (i := 628) (by decide +kernel))) rfl
theorem tw_629 : Cond.instanceMethod yX2_drawActs ∈ pm_T := pm_in (List.mem_append_right _ (List.mem_of_getElem? (i := 629) (by decide +kernel))) rfl
theorem tw_630 : Cond.selects RX2 yX2_drawActs yX2_drawActs ∈ pm_T := pm_in (List.mem_append_right _ (List.mem_of_getElem? (i := 630) (by decide +kernel))) rfl
theorem vl_X9_233 : pm_LV RX9 233 yX2_drawActs := ⟨tw_628, tw_629, tw_630⟩
theorem tw_638 : Cond.methodLink RX9 237 yJ6_bitCount_0f7a4 ∈ pm_T := pm_in (List.mem_append_right _ (List.mem_of_getElem? (i := 638) (by decide +kernel))) rfl
theorem tw_639 : Cond.static yJ6_bitCount_0f7a4 ∈ pm_T := pm_in (List.mem_append_right _ (List.mem_of_getElem? (i := 639) (by decide +kernel))) rfl
theorem sl_X9_237 : pm_LS RX9 237 yJ6_bitCount_0f7a4 := ⟨Or.inl tw_638, tw_639⟩
theorem tw_647 : Cond.code yX9_image cX9_image 3 (some .int) ∈ pm_T := pm_in (List.mem_append_right _ (List.mem_of_getElem? (i := 647) (by decide +kernel))) rfl
theorem my_X9_image : pm_Y yX9_image cX9_image 3 (some .int) 1 := ⟨tw_647, tw_1, ⟨by decide, by decide⟩, by decide +kernel⟩
theorem fl_X9_16 : pm_FL RX9 16 8 1 := ⟨RX9, TX9, 8, in_X9, rfl, by decide, Or.inl tw_185⟩
theorem fl_X9_19 : pm_FL RX9 19 8 2 := ⟨RX9, TX9, 8, in_X9, rfl, by decide, Or.inl tw_186⟩
theorem tw_648 : Cond.methodLink RX9 242 yX8_copyFrom ∈ pm_T := pm_in (List.mem_append_right _ (List.mem_of_getElem? (i := 648) (by decide +kernel))) rfl
theorem tw_649 : Cond.instanceMethod yX8_copyFrom ∈ pm_T := pm_in (List.mem_append_right _ (List.mem_of_getElem? (i := 649) (by decide +kernel))) rfl
theorem tw_650 : Cond.selects RX8 yX8_copyFrom yX8_copyFrom ∈ pm_T := pm_in (List.mem_append_right _ (List.mem_of_getElem? (i := 650) (by decide +kernel))) rfl
theorem vl_X9_242 : pm_LV RX9 242 yX8_copyFrom := ⟨tw_648, tw_649, tw_650⟩
theorem tw_102 : Cond.fieldLinkNest RX9 245 (TX8 3).1 (TX8 3).2.1 (TX8 3).2.2.1 "PaleMoor" ∈ pm_T := pm_in (List.mem_append_right _ (List.mem_of_getElem? (i := 102) (by decide +kernel))) rfl
theorem fp_X9_245 : pm_FPn RX9 245 7 3 .boolean := ⟨RX8, TX8, 4, tyX8, "PaleMoor", in_X8, rfl, by decide, tw_102, tyX8_ok, nmX8, rfl, by decide +kernel⟩
theorem tw_666 : Cond.code yX9_restore cX9_restore 3 (some .int) ∈ pm_T := pm_in (List.mem_append_right _ (List.mem_of_getElem? (i := 666) (by decide +kernel))) rfl
theorem my_X9_restore : pm_Y yX9_restore cX9_restore 3 (some .int) 1 := ⟨tw_666, tw_1, ⟨by decide, by decide⟩, by decide +kernel⟩
theorem fl_X9_245 : pm_FL RX9 245 7 3 := ⟨RX8, TX8, 4, in_X8, rfl, by decide, Or.inr ⟨_, tw_102⟩⟩
theorem tw_670 : Cond.code yX9_told cX9_told 2 (some .int) ∈ pm_T := pm_in (List.mem_append_right _ (List.mem_of_getElem? (i := 670) (by decide +kernel))) rfl
theorem my_X9_told : pm_Y yX9_told cX9_told 2 (some .int) 1 := ⟨tw_670, tw_1, ⟨by decide, by decide⟩, by decide +kernel⟩
theorem tw_671 : Cond.methodLink RX9 249 yX9_toldOfAll ∈ pm_T := pm_in (List.mem_append_right _ (List.mem_of_getElem? (i := 671) (by decide +kernel))) rfl
theorem tw_673 : Cond.instanceMethod yX9_toldOfAll ∈ pm_T := pm_in (List.mem_append_right _ (List.mem_of_getElem? (i := 673) (by decide +kernel))) rfl
theorem ts_21 : Cond.selects RX9 yX9_toldOfAll yX9_toldOfAll ∈ pm_T := pm_in (List.mem_append_left _ (List.mem_of_getElem? (i := 21) (by decide +kernel))) rfl
theorem vl_X9_249 : pm_LV RX9 249 yX9_toldOfAll := ⟨tw_671, tw_673, ts_21⟩
theorem tw_675 : Cond.methodLink RX9 252 yX9_toldOfFarm ∈ pm_T := pm_in (List.mem_append_right _ (List.mem_of_getElem? (i := 675) (by decide +kernel))) rfl
theorem tw_677 : Cond.instanceMethod yX9_toldOfFarm ∈ pm_T := pm_in (List.mem_append_right _ (List.mem_of_getElem? (i := 677) (by decide +kernel))) rfl
theorem ts_22 : Cond.selects RX9 yX9_toldOfFarm yX9_toldOfFarm ∈ pm_T := pm_in (List.mem_append_left _ (List.mem_of_getElem? (i := 22) (by decide +kernel))) rfl
theorem vl_X9_252 : pm_LV RX9 252 yX9_toldOfFarm := ⟨tw_675, tw_677, ts_22⟩
theorem tw_679 : Cond.methodLink RX9 255 yX9_toldOfOne ∈ pm_T := pm_in (List.mem_append_right _ (List.mem_of_getElem? (i := 679) (by decide +kernel))) rfl
theorem tw_681 : Cond.instanceMethod yX9_toldOfOne ∈ pm_T := pm_in (List.mem_append_right _ (List.mem_of_getElem? (i := 681) (by decide +kernel))) rfl
theorem ts_23 : Cond.selects RX9 yX9_toldOfOne yX9_toldOfOne ∈ pm_T := pm_in (List.mem_append_left _ (List.mem_of_getElem? (i := 23) (by decide +kernel))) rfl
theorem vl_X9_255 : pm_LV RX9 255 yX9_toldOfOne := ⟨tw_679, tw_681, ts_23⟩
theorem tw_683 : Cond.methodLink RX9 258 yX9_toldOfPair ∈ pm_T := pm_in (List.mem_append_right _ (List.mem_of_getElem? (i := 683) (by decide +kernel))) rfl
theorem tw_685 : Cond.instanceMethod yX9_toldOfPair ∈ pm_T := pm_in (List.mem_append_right _ (List.mem_of_getElem? (i := 685) (by decide +kernel))) rfl
theorem ts_24 : Cond.selects RX9 yX9_toldOfPair yX9_toldOfPair ∈ pm_T := pm_in (List.mem_append_left _ (List.mem_of_getElem? (i := 24) (by decide +kernel))) rfl
theorem vl_X9_258 : pm_LV RX9 258 yX9_toldOfPair := ⟨tw_683, tw_685, ts_24⟩
theorem tw_674 : Cond.code yX9_toldOfAll cX9_toldOfAll 2 (some .int) ∈ pm_T := pm_in (List.mem_append_right _ (List.mem_of_getElem? (i := 674) (by decide +kernel))) rfl
theorem my_X9_toldOfAll : pm_Y yX9_toldOfAll cX9_toldOfAll 2 (some .int) 1 := ⟨tw_674, tw_1, ⟨by decide, by decide⟩, by decide +kernel⟩
theorem tw_678 : Cond.code yX9_toldOfFarm cX9_toldOfFarm 3 (some .int) ∈ pm_T := pm_in (List.mem_append_right _ (List.mem_of_getElem? (i := 678) (by decide +kernel))) rfl
theorem my_X9_toldOfFarm : pm_Y yX9_toldOfFarm cX9_toldOfFarm 3 (some .int) 2 := ⟨tw_678, tw_1, ⟨by decide, by decide⟩, by decide +kernel⟩
theorem tw_682 : Cond.code yX9_toldOfOne cX9_toldOfOne 3 (some .int) ∈ pm_T := pm_in (List.mem_append_right _ (List.mem_of_getElem? (i := 682) (by decide +kernel))) rfl
theorem my_X9_toldOfOne : pm_Y yX9_toldOfOne cX9_toldOfOne 3 (some .int) 2 := ⟨tw_682, tw_1, ⟨by decide, by decide⟩, by decide +kernel⟩
theorem tw_686 : Cond.code yX9_toldOfPair cX9_toldOfPair 4 (some .int) ∈ pm_T := pm_in (List.mem_append_right _ (List.mem_of_getElem? (i := 686) (by decide +kernel))) rfl
theorem my_X9_toldOfPair : pm_Y yX9_toldOfPair cX9_toldOfPair 4 (some .int) 3 := ⟨tw_686, tw_1, ⟨by decide, by decide⟩, by decide +kernel⟩
theorem tw_218 : Cond.code yX9_isFarm cX9_isFarm 1 (some .boolean) ∈ pm_T := pm_in (List.mem_append_right _ (List.mem_of_getElem? (i := 218) (by decide +kernel))) rfl
theorem my_X9_isFarm : pm_Y yX9_isFarm cX9_isFarm 1 (some .boolean) 1 := ⟨tw_218, tw_1, ⟨by decide, by decide⟩, by decide +kernel⟩
theorem tw_215 : Cond.code yX9_areTwoFarms cX9_areTwoFarms 2 (some .boolean) ∈ pm_T := pm_in (List.mem_append_right _ (List.mem_of_getElem? (i := 215) (by decide +kernel))) rfl
theorem my_X9_areTwoFarms : pm_Y yX9_areTwoFarms cX9_areTwoFarms 2 (some .boolean) 2 := ⟨tw_215, tw_1, ⟨by decide, by decide⟩, by decide +kernel⟩
theorem tw_263 : Cond.code yX9_isOne cX9_isOne 2 (some .boolean) ∈ pm_T := pm_in (List.mem_append_right _ (List.mem_of_getElem? (i := 263) (by decide +kernel))) rfl
theorem my_X9_isOne : pm_Y yX9_isOne cX9_isOne 2 (some .boolean) 2 := ⟨tw_263, tw_1, ⟨by decide, by decide⟩, by decide +kernel⟩
theorem tw_266 : Cond.code yX9_isZeroOrOne cX9_isZeroOrOne 1 (some .boolean) ∈ pm_T := pm_in (List.mem_append_right _ (List.mem_of_getElem? (i := 266) (by decide +kernel))) rfl
theorem my_X9_isZeroOrOne : pm_Y yX9_isZeroOrOne cX9_isZeroOrOne 1 (some .boolean) 1 := ⟨tw_266, tw_1, ⟨by decide, by decide⟩, by decide +kernel⟩
theorem tw_691 : Cond.code yX10_init cX10_init 2 none ∈ pm_T := pm_in (List.mem_append_right _ (List.mem_of_getElem? (i := 691) (by decide +kernel))) rfl
theorem tw_11 : Cond.initialized RX10 ∈ pm_T := pm_in (List.mem_append_right _ (List.mem_of_getElem? (i := 11) (by decide +kernel))) rfl
theorem my_X10_init : pm_Y yX10_init cX10_init 2 none 0 := ⟨tw_691, tw_11, ⟨by decide, by decide⟩, by decide +kernel⟩
theorem tw_692 : Cond.methodLink RX10 1 objectInit ∈ pm_T := pm_in (List.mem_append_right _ (List.mem_of_getElem? (i := 692) (by decide +kernel))) rfl
theorem oi_X10_1 : Cond.methodLink RX10 1 objectInit ∈ pm_T ∧ Cond.instanceMethod objectInit ∈ pm_T ∧ Cond.code objectInit ⟨#[0xb1]⟩ 1 none ∈ pm_T := ⟨tw_692, tw_22, tw_23⟩
theorem tw_693 : Cond.fieldLink RX10 7 (TX10 0).1 (TX10 0).2.1 (TX10 0).2.2.1 ∈ pm_T := pm_in (List.mem_append_right _ (List.mem_of_getElem? (i := 693) (by decide +kernel))) rfl
theorem fp_X10_7 : pm_FP RX10 7 9 0 true (.array .int) := ⟨RX10, TX10, 24, tyX10, in_X10, rfl, by decide, tw_693, tyX10_ok, nmX10, rfl, by decide +kernel, fun _ => rfl⟩
theorem tw_694 : Cond.fieldLink RX10 13 (TX10 1).1 (TX10 1).2.1 (TX10 1).2.2.1 ∈ pm_T := pm_in (List.mem_append_right _ (List.mem_of_getElem? (i := 694) (by decide +kernel))) rfl
theorem fp_X10_13 : pm_FP RX10 13 9 1 true (.array .int) := ⟨RX10, TX10, 24, tyX10, in_X10, rfl, by decide, tw_694, tyX10_ok, nmX10, rfl, by decide +kernel, fun _ => rfl⟩
theorem tw_695 : Cond.fieldLink RX10 16 (TX10 2).1 (TX10 2).2.1 (TX10 2).2.2.1 ∈ pm_T := pm_in (List.mem_append_right _ (List.mem_of_getElem? (i := 695) (by decide +kernel))) rfl
theorem fp_X10_16 : pm_FP RX10 16 9 2 true (.array .int) := ⟨RX10, TX10, 24, tyX10, in_X10, rfl, by decide, tw_695, tyX10_ok, nmX10, rfl, by decide +kernel, fun _ => rfl⟩
theorem tw_696 : Cond.fieldLink RX10 19 (TX10 3).1 (TX10 3).2.1 (TX10 3).2.2.1 ∈ pm_T := pm_in (List.mem_append_right _ (List.mem_of_getElem? (i := 696) (by decide +kernel))) rfl
theorem fp_X10_19 : pm_FP RX10 19 9 3 true (.array .int) := ⟨RX10, TX10, 24, tyX10, in_X10, rfl, by decide, tw_696, tyX10_ok, nmX10, rfl, by decide +kernel, fun _ => rfl⟩
theorem tw_698 : Cond.fieldLink RX10 22 (TX10 5).1 (TX10 5).2.1 (TX10 5).2.2.1 ∈ pm_T := pm_in (List.mem_append_right _ (List.mem_of_getElem? (i := 698) (by decide +kernel))) rfl
theorem fp_X10_22 : pm_FP RX10 22 9 5 true (.array .int) := ⟨RX10, TX10, 24, tyX10, in_X10, rfl, by decide, tw_698, tyX10_ok, nmX10, rfl, by decide +kernel, fun _ => rfl⟩
theorem tw_700 : Cond.fieldLink RX10 25 (TX10 7).1 (TX10 7).2.1 (TX10 7).2.2.1 ∈ pm_T := pm_in (List.mem_append_right _ (List.mem_of_getElem? (i := 700) (by decide +kernel))) rfl
theorem fp_X10_25 : pm_FP RX10 25 9 7 true (.array .int) := ⟨RX10, TX10, 24, tyX10, in_X10, rfl, by decide, tw_700, tyX10_ok, nmX10, rfl, by decide +kernel, fun _ => rfl⟩
theorem tw_704 : Cond.fieldLink RX10 28 (TX10 11).1 (TX10 11).2.1 (TX10 11).2.2.1 ∈ pm_T := pm_in (List.mem_append_right _ (List.mem_of_getElem? (i := 704) (by decide +kernel))) rfl
theorem fp_X10_28 : pm_FP RX10 28 9 11 true (.array .int) := ⟨RX10, TX10, 24, tyX10, in_X10, rfl, by decide, tw_704, tyX10_ok, nmX10, rfl, by decide +kernel, fun _ => rfl⟩
theorem tw_707 : Cond.fieldLink RX10 31 (TX10 14).1 (TX10 14).2.1 (TX10 14).2.2.1 ∈ pm_T := pm_in (List.mem_append_right _ (List.mem_of_getElem? (i := 707) (by decide +kernel))) rfl
theorem fp_X10_31 : pm_FP RX10 31 9 14 true (.array .int) := ⟨RX10, TX10, 24, tyX10, in_X10, rfl, by decide, tw_707, tyX10_ok, nmX10, rfl, by decide +kernel, fun _ => rfl⟩
theorem tw_708 : Cond.fieldLink RX10 34 (TX10 15).1 (TX10 15).2.1 (TX10 15).2.2.1 ∈ pm_T := pm_in (List.mem_append_right _ (List.mem_of_getElem? (i := 708) (by decide +kernel))) rfl
theorem fp_X10_34 : pm_FP RX10 34 9 15 true (.array .int) := ⟨RX10, TX10, 24, tyX10, in_X10, rfl, by decide, tw_708, tyX10_ok, nmX10, rfl, by decide +kernel, fun _ => rfl⟩
theorem tw_709 : Cond.fieldLink RX10 37 (TX10 16).1 (TX10 16).2.1 (TX10 16).2.2.1 ∈ pm_T := pm_in (List.mem_append_right _ (List.mem_of_getElem? (i := 709) (by decide +kernel))) rfl
theorem fp_X10_37 : pm_FP RX10 37 9 16 true (.array .int) := ⟨RX10, TX10, 24, tyX10, in_X10, rfl, by decide, tw_709, tyX10_ok, nmX10, rfl, by decide +kernel, fun _ => rfl⟩
theorem tw_710 : Cond.fieldLink RX10 40 (TX10 17).1 (TX10 17).2.1 (TX10 17).2.2.1 ∈ pm_T := pm_in (List.mem_append_right _ (List.mem_of_getElem? (i := 710) (by decide +kernel))) rfl
theorem fp_X10_40 : pm_FP RX10 40 9 17 true (.array .int) := ⟨RX10, TX10, 24, tyX10, in_X10, rfl, by decide, tw_710, tyX10_ok, nmX10, rfl, by decide +kernel, fun _ => rfl⟩
theorem tw_711 : Cond.fieldLink RX10 43 (TX10 18).1 (TX10 18).2.1 (TX10 18).2.2.1 ∈ pm_T := pm_in (List.mem_append_right _ (List.mem_of_getElem? (i := 711) (by decide +kernel))) rfl
theorem fp_X10_43 : pm_FP RX10 43 9 18 true (.array .int) := ⟨RX10, TX10, 24, tyX10, in_X10, rfl, by decide, tw_711, tyX10_ok, nmX10, rfl, by decide +kernel, fun _ => rfl⟩
theorem tw_712 : Cond.fieldLink RX10 46 (TX10 19).1 (TX10 19).2.1 (TX10 19).2.2.1 ∈ pm_T := pm_in (List.mem_append_right _ (List.mem_of_getElem? (i := 712) (by decide +kernel))) rfl
theorem fp_X10_46 : pm_FP RX10 46 9 19 true (.array .int) := ⟨RX10, TX10, 24, tyX10, in_X10, rfl, by decide, tw_712, tyX10_ok, nmX10, rfl, by decide +kernel, fun _ => rfl⟩
theorem tw_713 : Cond.fieldLink RX10 49 (TX10 20).1 (TX10 20).2.1 (TX10 20).2.2.1 ∈ pm_T := pm_in (List.mem_append_right _ (List.mem_of_getElem? (i := 713) (by decide +kernel))) rfl
theorem fp_X10_49 : pm_FP RX10 49 9 20 true (.array .int) := ⟨RX10, TX10, 24, tyX10, in_X10, rfl, by decide, tw_713, tyX10_ok, nmX10, rfl, by decide +kernel, fun _ => rfl⟩
theorem tw_714 : Cond.fieldLink RX10 52 (TX10 21).1 (TX10 21).2.1 (TX10 21).2.2.1 ∈ pm_T := pm_in (List.mem_append_right _ (List.mem_of_getElem? (i := 714) (by decide +kernel))) rfl
theorem fp_X10_52 : pm_FP RX10 52 9 21 true (.array .boolean) := ⟨RX10, TX10, 24, tyX10, in_X10, rfl, by decide, tw_714, tyX10_ok, nmX10, rfl, by decide +kernel, fun _ => rfl⟩
theorem tw_715 : Cond.fieldLink RX10 56 (TX10 22).1 (TX10 22).2.1 (TX10 22).2.2.1 ∈ pm_T := pm_in (List.mem_append_right _ (List.mem_of_getElem? (i := 715) (by decide +kernel))) rfl
theorem fp_X10_56 : pm_FP RX10 56 9 22 true (.array .int) := ⟨RX10, TX10, 24, tyX10, in_X10, rfl, by decide, tw_715, tyX10_ok, nmX10, rfl, by decide +kernel, fun _ => rfl⟩
theorem tw_716 : Cond.fieldLink RX10 59 (TX10 23).1 (TX10 23).2.1 (TX10 23).2.2.1 ∈ pm_T := pm_in (List.mem_append_right _ (List.mem_of_getElem? (i := 716) (by decide +kernel))) rfl
theorem fp_X10_59 : pm_FP RX10 59 9 23 true (.array .boolean) := ⟨RX10, TX10, 24, tyX10, in_X10, rfl, by decide, tw_716, tyX10_ok, nmX10, rfl, by decide +kernel, fun _ => rfl⟩
theorem fl_X10_7 : pm_FL RX10 7 9 0 := ⟨RX10, TX10, 24, in_X10, rfl, by decide, Or.inl tw_693⟩
theorem fl_X10_19 : pm_FL RX10 19 9 3 := ⟨RX10, TX10, 24, in_X10, rfl, by decide, Or.inl tw_696⟩
theorem tw_776 : Cond.code yX10_in cX10_in 3 (some .boolean) ∈ pm_T := pm_in (List.mem_append_right _ (List.mem_of_getElem? (i := 776) (by decide +kernel))) rfl
theorem my_X10_in : pm_Y yX10_in cX10_in 3 (some .boolean) 3 := ⟨tw_776, tw_11, ⟨by decide, by decide⟩, by decide +kernel⟩
theorem tw_895 : Cond.code yX10_has cX10_has 2 (some .boolean) ∈ pm_T := pm_in (List.mem_append_right _ (List.mem_of_getElem? (i := 895) (by decide +kernel))) rfl
theorem my_X10_has : pm_Y yX10_has cX10_has 2 (some .boolean) 2 := ⟨tw_895, tw_11, ⟨by decide, by decide⟩, by decide +kernel⟩
theorem tw_773 : Cond.code yX10_isFarm cX10_isFarm 1 (some .boolean) ∈ pm_T := pm_in (List.mem_append_right _ (List.mem_of_getElem? (i := 773) (by decide +kernel))) rfl
theorem my_X10_isFarm : pm_Y yX10_isFarm cX10_isFarm 1 (some .boolean) 1 := ⟨tw_773, tw_11, ⟨by decide, by decide⟩, by decide +kernel⟩
theorem tw_774 : Cond.methodLink RX10 62 yX10_in ∈ pm_T := pm_in (List.mem_append_right _ (List.mem_of_getElem? (i := 774) (by decide +kernel))) rfl
theorem tw_775 : Cond.static yX10_in ∈ pm_T := pm_in (List.mem_append_right _ (List.mem_of_getElem? (i := 775) (by decide +kernel))) rfl
theorem sl_X10_62 : pm_LS RX10 62 yX10_in := ⟨Or.inl tw_774, tw_775⟩
theorem tw_770 : Cond.code yX10_pale cX10_pale 4 (some .int) ∈ pm_T := pm_in (List.mem_append_right _ (List.mem_of_getElem? (i := 770) (by decide +kernel))) rfl
theorem my_X10_pale : pm_Y yX10_pale cX10_pale 4 (some .int) 3 := ⟨tw_770, tw_11, ⟨by decide, by decide⟩, by decide +kernel⟩
theorem tw_771 : Cond.methodLink RX10 66 yX10_isFarm ∈ pm_T := pm_in (List.mem_append_right _ (List.mem_of_getElem? (i := 771) (by decide +kernel))) rfl
theorem tw_772 : Cond.static yX10_isFarm ∈ pm_T := pm_in (List.mem_append_right _ (List.mem_of_getElem? (i := 772) (by decide +kernel))) rfl
theorem sl_X10_66 : pm_LS RX10 66 yX10_isFarm := ⟨Or.inl tw_771, tw_772⟩
theorem tw_777 : Cond.methodLink RX10 70 yX10_asNow ∈ pm_T := pm_in (List.mem_append_right _ (List.mem_of_getElem? (i := 777) (by decide +kernel))) rfl
theorem tw_779 : Cond.instanceMethod yX10_asNow ∈ pm_T := pm_in (List.mem_append_right _ (List.mem_of_getElem? (i := 779) (by decide +kernel))) rfl
theorem ts_25 : Cond.selects RX10 yX10_asNow yX10_asNow ∈ pm_T := pm_in (List.mem_append_left _ (List.mem_of_getElem? (i := 25) (by decide +kernel))) rfl
theorem vl_X10_70 : pm_LV RX10 70 yX10_asNow := ⟨tw_777, tw_779, ts_25⟩
theorem tw_781 : Cond.methodLink RX10 73 yX10_palesOf ∈ pm_T := pm_in (List.mem_append_right _ (List.mem_of_getElem? (i := 781) (by decide +kernel))) rfl
theorem tw_783 : Cond.instanceMethod yX10_palesOf ∈ pm_T := pm_in (List.mem_append_right _ (List.mem_of_getElem? (i := 783) (by decide +kernel))) rfl
theorem ts_26 : Cond.selects RX10 yX10_palesOf yX10_palesOf ∈ pm_T := pm_in (List.mem_append_left _ (List.mem_of_getElem? (i := 26) (by decide +kernel))) rfl
theorem vl_X10_73 : pm_LV RX10 73 yX10_palesOf := ⟨tw_781, tw_783, ts_26⟩
theorem tw_788 : Cond.code yX10_road cX10_road 5 (some .int) ∈ pm_T := pm_in (List.mem_append_right _ (List.mem_of_getElem? (i := 788) (by decide +kernel))) rfl
theorem my_X10_road : pm_Y yX10_road cX10_road 5 (some .int) 3 := ⟨tw_788, tw_11, ⟨by decide, by decide⟩, by decide +kernel⟩
theorem fl_X10_16 : pm_FL RX10 16 9 2 := ⟨RX10, TX10, 24, in_X10, rfl, by decide, Or.inl tw_695⟩
theorem tw_792 : Cond.code yX10_farm cX10_farm 5 (some .int) ∈ pm_T := pm_in (List.mem_append_right _ (List.mem_of_getElem? (i := 792) (by decide +kernel))) rfl
theorem my_X10_farm : pm_Y yX10_farm cX10_farm 5 (some .int) 3 := ⟨tw_792, tw_11, ⟨by decide, by decide⟩, by decide +kernel⟩
theorem tw_800 : Cond.code yX10_rowOf cX10_rowOf 5 (some .int) ∈ pm_T := pm_in (List.mem_append_right _ (List.mem_of_getElem? (i := 800) (by decide +kernel))) rfl
theorem my_X10_rowOf : pm_Y yX10_rowOf cX10_rowOf 5 (some .int) 2 := ⟨tw_800, tw_11, ⟨by decide, by decide⟩, by decide +kernel⟩
theorem tw_796 : Cond.code yX10_likes cX10_likes 8 (some .int) ∈ pm_T := pm_in (List.mem_append_right _ (List.mem_of_getElem? (i := 796) (by decide +kernel))) rfl
theorem my_X10_likes : pm_Y yX10_likes cX10_likes 8 (some .int) 3 := ⟨tw_796, tw_11, ⟨by decide, by decide⟩, by decide +kernel⟩
theorem tw_797 : Cond.methodLink RX10 77 yX10_rowOf ∈ pm_T := pm_in (List.mem_append_right _ (List.mem_of_getElem? (i := 797) (by decide +kernel))) rfl
theorem tw_799 : Cond.instanceMethod yX10_rowOf ∈ pm_T := pm_in (List.mem_append_right _ (List.mem_of_getElem? (i := 799) (by decide +kernel))) rfl
theorem ts_27 : Cond.selects RX10 yX10_rowOf yX10_rowOf ∈ pm_T := pm_in (List.mem_append_left _ (List.mem_of_getElem? (i := 27) (by decide +kernel))) rfl
theorem vl_X10_77 : pm_LV RX10 77 yX10_rowOf := ⟨tw_797, tw_799, ts_27⟩
theorem tw_804 : Cond.code yX10_say cX10_say 2 (some .int) ∈ pm_T := pm_in (List.mem_append_right _ (List.mem_of_getElem? (i := 804) (by decide +kernel))) rfl
theorem my_X10_say : pm_Y yX10_say cX10_say 2 (some .int) 1 := ⟨tw_804, tw_11, ⟨by decide, by decide⟩, by decide +kernel⟩
theorem tw_699 : Cond.fieldLink RX10 81 (TX10 6).1 (TX10 6).2.1 (TX10 6).2.2.1 ∈ pm_T := pm_in (List.mem_append_right _ (List.mem_of_getElem? (i := 699) (by decide +kernel))) rfl
theorem fl_X10_81 : pm_FL RX10 81 9 6 := ⟨RX10, TX10, 24, in_X10, rfl, by decide, Or.inl tw_699⟩
theorem fl_X10_25 : pm_FL RX10 25 9 7 := ⟨RX10, TX10, 24, in_X10, rfl, by decide, Or.inl tw_700⟩
theorem fp_X10_81 : pm_FP RX10 81 9 6 false .int := ⟨RX10, TX10, 24, tyX10, in_X10, rfl, by decide, tw_699, tyX10_ok, nmX10, rfl, by decide +kernel, fun h => by cases h⟩
theorem tw_808 : Cond.code yX10_wipe cX10_wipe 2 (some .int) ∈ pm_T := pm_in (List.mem_append_right _ (List.mem_of_getElem? (i := 808) (by decide +kernel))) rfl
theorem my_X10_wipe : pm_Y yX10_wipe cX10_wipe 2 (some .int) 0 := ⟨tw_808, tw_11, ⟨by decide, by decide⟩, by decide +kernel⟩
theorem tw_819 : Cond.code yX10_step cX10_step 3 (some .int) ∈ pm_T := pm_in (List.mem_append_right _ (List.mem_of_getElem? (i := 819) (by decide +kernel))) rfl
theorem my_X10_step : pm_Y yX10_step cX10_step 3 (some .int) 2 := ⟨tw_819, tw_11, ⟨by decide, by decide⟩, by decide +kernel⟩
theorem tw_816 : Cond.code yX10_faultOf cX10_faultOf 3 (some .int) ∈ pm_T := pm_in (List.mem_append_right _ (List.mem_of_getElem? (i := 816) (by decide +kernel))) rfl
theorem my_X10_faultOf : pm_Y yX10_faultOf cX10_faultOf 3 (some .int) 0 := ⟨tw_816, tw_11, ⟨by decide, by decide⟩, by decide +kernel⟩
theorem tw_817 : Cond.methodLink RX10 85 yX10_step ∈ pm_T := pm_in (List.mem_append_right _ (List.mem_of_getElem? (i := 817) (by decide +kernel))) rfl
theorem tw_818 : Cond.static yX10_step ∈ pm_T := pm_in (List.mem_append_right _ (List.mem_of_getElem? (i := 818) (by decide +kernel))) rfl
theorem sl_X10_85 : pm_LS RX10 85 yX10_step := ⟨Or.inl tw_817, tw_818⟩
theorem tw_812 : Cond.code yX10_fault cX10_fault 1 (some .int) ∈ pm_T := pm_in (List.mem_append_right _ (List.mem_of_getElem? (i := 812) (by decide +kernel))) rfl
theorem my_X10_fault : pm_Y yX10_fault cX10_fault 1 (some .int) 0 := ⟨tw_812, tw_11, ⟨by decide, by decide⟩, by decide +kernel⟩
theorem tw_813 : Cond.methodLink RX10 88 yX10_faultOf ∈ pm_T := pm_in (List.mem_append_right _ (List.mem_of_getElem? (i := 813) (by decide +kernel))) rfl
theorem tw_815 : Cond.instanceMethod yX10_faultOf ∈ pm_T := pm_in (List.mem_append_right _ (List.mem_of_getElem? (i := 815) (by decide +kernel))) rfl
theorem ts_28 : Cond.selects RX10 yX10_faultOf yX10_faultOf ∈ pm_T := pm_in (List.mem_append_left _ (List.mem_of_getElem? (i := 28) (by decide +kernel))) rfl
theorem vl_X10_88 : pm_LV RX10 88 yX10_faultOf := ⟨tw_813, tw_815, ts_28⟩
theorem tw_780 : Cond.code yX10_asNow cX10_asNow 2 none ∈ pm_T := pm_in (List.mem_append_right _ (List.mem_of_getElem? (i := 780) (by decide +kernel))) rfl
theorem my_X10_asNow : pm_Y yX10_asNow cX10_asNow 2 none 0 := ⟨tw_780, tw_11, ⟨by decide, by decide⟩, by decide +kernel⟩
theorem fl_X10_13 : pm_FL RX10 13 9 1 := ⟨RX10, TX10, 24, in_X10, rfl, by decide, Or.inl tw_694⟩
theorem tw_701 : Cond.fieldLink RX10 92 (TX10 8).1 (TX10 8).2.1 (TX10 8).2.2.1 ∈ pm_T := pm_in (List.mem_append_right _ (List.mem_of_getElem? (i := 701) (by decide +kernel))) rfl
theorem fp_X10_92 : pm_FP RX10 92 9 8 false .int := ⟨RX10, TX10, 24, tyX10, in_X10, rfl, by decide, tw_701, tyX10_ok, nmX10, rfl, by decide +kernel, fun h => by cases h⟩
theorem tw_702 : Cond.fieldLink RX10 95 (TX10 9).1 (TX10 9).2.1 (TX10 9).2.2.1 ∈ pm_T := pm_in (List.mem_append_right _ (List.mem_of_getElem? (i := 702) (by decide +kernel))) rfl
theorem fp_X10_95 : pm_FP RX10 95 9 9 false .int := ⟨RX10, TX10, 24, tyX10, in_X10, rfl, by decide, tw_702, tyX10_ok, nmX10, rfl, by decide +kernel, fun h => by cases h⟩
theorem tw_703 : Cond.fieldLink RX10 98 (TX10 10).1 (TX10 10).2.1 (TX10 10).2.2.1 ∈ pm_T := pm_in (List.mem_append_right _ (List.mem_of_getElem? (i := 703) (by decide +kernel))) rfl
theorem fp_X10_98 : pm_FP RX10 98 9 10 false .int := ⟨RX10, TX10, 24, tyX10, in_X10, rfl, by decide, tw_703, tyX10_ok, nmX10, rfl, by decide +kernel, fun h => by cases h⟩
theorem tw_784 : Cond.code yX10_palesOf cX10_palesOf 4 (some .int) ∈ pm_T := pm_in (List.mem_append_right _ (List.mem_of_getElem? (i := 784) (by decide +kernel))) rfl
theorem my_X10_palesOf : pm_Y yX10_palesOf cX10_palesOf 4 (some .int) 1 := ⟨tw_784, tw_11, ⟨by decide, by decide⟩, by decide +kernel⟩
theorem tw_879 : Cond.code yX10_away cX10_away 3 (some .int) ∈ pm_T := pm_in (List.mem_append_right _ (List.mem_of_getElem? (i := 879) (by decide +kernel))) rfl
theorem my_X10_away : pm_Y yX10_away cX10_away 3 (some .int) 0 := ⟨tw_879, tw_11, ⟨by decide, by decide⟩, by decide +kernel⟩
theorem tw_847 : Cond.code yX10_lay cX10_lay 4 none ∈ pm_T := pm_in (List.mem_append_right _ (List.mem_of_getElem? (i := 847) (by decide +kernel))) rfl
theorem my_X10_lay : pm_Y yX10_lay cX10_lay 4 none 3 := ⟨tw_847, tw_11, ⟨by decide, by decide⟩, by decide +kernel⟩
theorem tw_855 : Cond.code yX10_go cX10_go 4 (some .int) ∈ pm_T := pm_in (List.mem_append_right _ (List.mem_of_getElem? (i := 855) (by decide +kernel))) rfl
theorem my_X10_go : pm_Y yX10_go cX10_go 4 (some .int) 2 := ⟨tw_855, tw_11, ⟨by decide, by decide⟩, by decide +kernel⟩
theorem fl_X10_92 : pm_FL RX10 92 9 8 := ⟨RX10, TX10, 24, in_X10, rfl, by decide, Or.inl tw_701⟩
theorem tw_843 : Cond.code yX10_mend cX10_mend 4 (some .int) ∈ pm_T := pm_in (List.mem_append_right _ (List.mem_of_getElem? (i := 843) (by decide +kernel))) rfl
theorem my_X10_mend : pm_Y yX10_mend cX10_mend 4 (some .int) 1 := ⟨tw_843, tw_11, ⟨by decide, by decide⟩, by decide +kernel⟩
theorem tw_844 : Cond.methodLink RX10 101 yX10_lay ∈ pm_T := pm_in (List.mem_append_right _ (List.mem_of_getElem? (i := 844) (by decide +kernel))) rfl
theorem tw_846 : Cond.instanceMethod yX10_lay ∈ pm_T := pm_in (List.mem_append_right _ (List.mem_of_getElem? (i := 846) (by decide +kernel))) rfl
theorem ts_34 : Cond.selects RX10 yX10_lay yX10_lay ∈ pm_T := pm_in (List.mem_append_left _ (List.mem_of_getElem? (i := 34) (by decide +kernel))) rfl
theorem vl_X10_101 : pm_LV RX10 101 yX10_lay := ⟨tw_844, tw_846, ts_34⟩
theorem tw_851 : Cond.code yX10_split cX10_split 4 (some .int) ∈ pm_T := pm_in (List.mem_append_right _ (List.mem_of_getElem? (i := 851) (by decide +kernel))) rfl
theorem my_X10_split : pm_Y yX10_split cX10_split 4 (some .int) 2 := ⟨tw_851, tw_11, ⟨by decide, by decide⟩, by decide +kernel⟩
theorem tw_839 : Cond.code yX10_blow cX10_blow 3 (some .int) ∈ pm_T := pm_in (List.mem_append_right _ (List.mem_of_getElem? (i := 839) (by decide +kernel))) rfl
theorem my_X10_blow : pm_Y yX10_blow cX10_blow 3 (some .int) 1 := ⟨tw_839, tw_11, ⟨by decide, by decide⟩, by decide +kernel⟩
theorem tw_831 : Cond.code yX10_endDay cX10_endDay 6 (some .int) ∈ pm_T := pm_in (List.mem_append_right _ (List.mem_of_getElem? (i := 831) (by decide +kernel))) rfl
theorem my_X10_endDay : pm_Y yX10_endDay cX10_endDay 6 (some .int) 0 := ⟨tw_831, tw_11, ⟨by decide, by decide⟩, by decide +kernel⟩
theorem tw_835 : Cond.code yX10_oneAct cX10_oneAct 4 (some .int) ∈ pm_T := pm_in (List.mem_append_right _ (List.mem_of_getElem? (i := 835) (by decide +kernel))) rfl
theorem my_X10_oneAct : pm_Y yX10_oneAct cX10_oneAct 4 (some .int) 1 := ⟨tw_835, tw_11, ⟨by decide, by decide⟩, by decide +kernel⟩
theorem tw_836 : Cond.methodLink RX10 105 yX10_blow ∈ pm_T := pm_in (List.mem_append_right _ (List.mem_of_getElem? (i := 836) (by decide +kernel))) rfl
theorem tw_838 : Cond.instanceMethod yX10_blow ∈ pm_T := pm_in (List.mem_append_right _ (List.mem_of_getElem? (i := 838) (by decide +kernel))) rfl
theorem ts_32 : Cond.selects RX10 yX10_blow yX10_blow ∈ pm_T := pm_in (List.mem_append_left _ (List.mem_of_getElem? (i := 32) (by decide +kernel))) rfl
theorem vl_X10_105 : pm_LV RX10 105 yX10_blow := ⟨tw_836, tw_838, ts_32⟩
theorem tw_840 : Cond.methodLink RX10 108 yX10_mend ∈ pm_T := pm_in (List.mem_append_right _ (List.mem_of_getElem? (i := 840) (by decide +kernel))) rfl
theorem tw_842 : Cond.instanceMethod yX10_mend ∈ pm_T := pm_in (List.mem_append_right _ (List.mem_of_getElem? (i := 842) (by decide +kernel))) rfl
theorem ts_33 : Cond.selects RX10 yX10_mend yX10_mend ∈ pm_T := pm_in (List.mem_append_left _ (List.mem_of_getElem? (i := 33) (by decide +kernel))) rfl
theorem vl_X10_108 : pm_LV RX10 108 yX10_mend := ⟨tw_840, tw_842, ts_33⟩
theorem tw_848 : Cond.methodLink RX10 111 yX10_split ∈ pm_T := pm_in (List.mem_append_right _ (List.mem_of_getElem? (i := 848) (by decide +kernel))) rfl
theorem tw_850 : Cond.instanceMethod yX10_split ∈ pm_T := pm_in (List.mem_append_right _ (List.mem_of_getElem? (i := 850) (by decide +kernel))) rfl
theorem ts_35 : Cond.selects RX10 yX10_split yX10_split ∈ pm_T := pm_in (List.mem_append_left _ (List.mem_of_getElem? (i := 35) (by decide +kernel))) rfl
theorem vl_X10_111 : pm_LV RX10 111 yX10_split := ⟨tw_848, tw_850, ts_35⟩
theorem tw_852 : Cond.methodLink RX10 114 yX10_go ∈ pm_T := pm_in (List.mem_append_right _ (List.mem_of_getElem? (i := 852) (by decide +kernel))) rfl
theorem tw_854 : Cond.instanceMethod yX10_go ∈ pm_T := pm_in (List.mem_append_right _ (List.mem_of_getElem? (i := 854) (by decide +kernel))) rfl
theorem ts_36 : Cond.selects RX10 yX10_go yX10_go ∈ pm_T := pm_in (List.mem_append_left _ (List.mem_of_getElem? (i := 36) (by decide +kernel))) rfl
theorem vl_X10_114 : pm_LV RX10 114 yX10_go := ⟨tw_852, tw_854, ts_36⟩
theorem tw_827 : Cond.code yX10_goWeeks cX10_goWeeks 4 (some .int) ∈ pm_T := pm_in (List.mem_append_right _ (List.mem_of_getElem? (i := 827) (by decide +kernel))) rfl
theorem my_X10_goWeeks : pm_Y yX10_goWeeks cX10_goWeeks 4 (some .int) 0 := ⟨tw_827, tw_11, ⟨by decide, by decide⟩, by decide +kernel⟩
theorem tw_706 : Cond.fieldLink RX10 117 (TX10 13).1 (TX10 13).2.1 (TX10 13).2.2.1 ∈ pm_T := pm_in (List.mem_append_right _ (List.mem_of_getElem? (i := 706) (by decide +kernel))) rfl
theorem fp_X10_117 : pm_FP RX10 117 9 13 false .int := ⟨RX10, TX10, 24, tyX10, in_X10, rfl, by decide, tw_706, tyX10_ok, nmX10, rfl, by decide +kernel, fun h => by cases h⟩
theorem fl_X10_28 : pm_FL RX10 28 9 11 := ⟨RX10, TX10, 24, in_X10, rfl, by decide, Or.inl tw_704⟩
theorem tw_828 : Cond.methodLink RX10 120 yX10_endDay ∈ pm_T := pm_in (List.mem_append_right _ (List.mem_of_getElem? (i := 828) (by decide +kernel))) rfl
theorem tw_830 : Cond.instanceMethod yX10_endDay ∈ pm_T := pm_in (List.mem_append_right _ (List.mem_of_getElem? (i := 830) (by decide +kernel))) rfl
theorem ts_30 : Cond.selects RX10 yX10_endDay yX10_endDay ∈ pm_T := pm_in (List.mem_append_left _ (List.mem_of_getElem? (i := 30) (by decide +kernel))) rfl
theorem vl_X10_120 : pm_LV RX10 120 yX10_endDay := ⟨tw_828, tw_830, ts_30⟩
theorem tw_832 : Cond.methodLink RX10 123 yX10_oneAct ∈ pm_T := pm_in (List.mem_append_right _ (List.mem_of_getElem? (i := 832) (by decide +kernel))) rfl
theorem tw_834 : Cond.instanceMethod yX10_oneAct ∈ pm_T := pm_in (List.mem_append_right _ (List.mem_of_getElem? (i := 834) (by decide +kernel))) rfl
theorem ts_31 : Cond.selects RX10 yX10_oneAct yX10_oneAct ∈ pm_T := pm_in (List.mem_append_left _ (List.mem_of_getElem? (i := 31) (by decide +kernel))) rfl
theorem vl_X10_123 : pm_LV RX10 123 yX10_oneAct := ⟨tw_832, tw_834, ts_31⟩
theorem tw_705 : Cond.fieldLink RX10 126 (TX10 12).1 (TX10 12).2.1 (TX10 12).2.2.1 ∈ pm_T := pm_in (List.mem_append_right _ (List.mem_of_getElem? (i := 705) (by decide +kernel))) rfl
theorem fp_X10_126 : pm_FP RX10 126 9 12 false .int := ⟨RX10, TX10, 24, tyX10, in_X10, rfl, by decide, tw_705, tyX10_ok, nmX10, rfl, by decide +kernel, fun h => by cases h⟩
theorem fl_X10_126 : pm_FL RX10 126 9 12 := ⟨RX10, TX10, 24, in_X10, rfl, by decide, Or.inl tw_705⟩
theorem fl_X10_117 : pm_FL RX10 117 9 13 := ⟨RX10, TX10, 24, in_X10, rfl, by decide, Or.inl tw_706⟩
theorem fl_X10_95 : pm_FL RX10 95 9 9 := ⟨RX10, TX10, 24, in_X10, rfl, by decide, Or.inl tw_702⟩
theorem tw_823 : Cond.code yX10_judge cX10_judge 3 (some .int) ∈ pm_T := pm_in (List.mem_append_right _ (List.mem_of_getElem? (i := 823) (by decide +kernel))) rfl
theorem my_X10_judge : pm_Y yX10_judge cX10_judge 3 (some .int) 1 := ⟨tw_823, tw_11, ⟨by decide, by decide⟩, by decide +kernel⟩
theorem tw_824 : Cond.methodLink RX10 129 yX10_goWeeks ∈ pm_T := pm_in (List.mem_append_right _ (List.mem_of_getElem? (i := 824) (by decide +kernel))) rfl
theorem tw_826 : Cond.instanceMethod yX10_goWeeks ∈ pm_T := pm_in (List.mem_append_right _ (List.mem_of_getElem? (i := 826) (by decide +kernel))) rfl
theorem ts_29 : Cond.selects RX10 yX10_goWeeks yX10_goWeeks ∈ pm_T := pm_in (List.mem_append_left _ (List.mem_of_getElem? (i := 29) (by decide +kernel))) rfl
theorem vl_X10_129 : pm_LV RX10 129 yX10_goWeeks := ⟨tw_824, tw_826, ts_29⟩
theorem tw_863 : Cond.code yX10_barOfWeeks cX10_barOfWeeks 1 (some .int) ∈ pm_T := pm_in (List.mem_append_right _ (List.mem_of_getElem? (i := 863) (by decide +kernel))) rfl
theorem my_X10_barOfWeeks : pm_Y yX10_barOfWeeks cX10_barOfWeeks 1 (some .int) 0 := ⟨tw_863, tw_11, ⟨by decide, by decide⟩, by decide +kernel⟩
theorem tw_859 : Cond.code yX10_done cX10_done 2 (some .int) ∈ pm_T := pm_in (List.mem_append_right _ (List.mem_of_getElem? (i := 859) (by decide +kernel))) rfl
theorem my_X10_done : pm_Y yX10_done cX10_done 2 (some .int) 0 := ⟨tw_859, tw_11, ⟨by decide, by decide⟩, by decide +kernel⟩
theorem tw_860 : Cond.methodLink RX10 132 yX10_barOfWeeks ∈ pm_T := pm_in (List.mem_append_right _ (List.mem_of_getElem? (i := 860) (by decide +kernel))) rfl
theorem tw_862 : Cond.instanceMethod yX10_barOfWeeks ∈ pm_T := pm_in (List.mem_append_right _ (List.mem_of_getElem? (i := 862) (by decide +kernel))) rfl
theorem ts_37 : Cond.selects RX10 yX10_barOfWeeks yX10_barOfWeeks ∈ pm_T := pm_in (List.mem_append_left _ (List.mem_of_getElem? (i := 37) (by decide +kernel))) rfl
theorem vl_X10_132 : pm_LV RX10 132 yX10_barOfWeeks := ⟨tw_860, tw_862, ts_37⟩
theorem tw_867 : Cond.code yX10_behind cX10_behind 3 (some .int) ∈ pm_T := pm_in (List.mem_append_right _ (List.mem_of_getElem? (i := 867) (by decide +kernel))) rfl
theorem my_X10_behind : pm_Y yX10_behind cX10_behind 3 (some .int) 2 := ⟨tw_867, tw_11, ⟨by decide, by decide⟩, by decide +kernel⟩
theorem tw_871 : Cond.code yX10_goes cX10_goes 3 (some .int) ∈ pm_T := pm_in (List.mem_append_right _ (List.mem_of_getElem? (i := 871) (by decide +kernel))) rfl
theorem my_X10_goes : pm_Y yX10_goes cX10_goes 3 (some .int) 2 := ⟨tw_871, tw_11, ⟨by decide, by decide⟩, by decide +kernel⟩
theorem tw_875 : Cond.code yX10_then cX10_then 2 (some .int) ∈ pm_T := pm_in (List.mem_append_right _ (List.mem_of_getElem? (i := 875) (by decide +kernel))) rfl
theorem my_X10_then : pm_Y yX10_then cX10_then 2 (some .int) 1 := ⟨tw_875, tw_11, ⟨by decide, by decide⟩, by decide +kernel⟩
theorem tw_876 : Cond.methodLink RX10 135 yX10_away ∈ pm_T := pm_in (List.mem_append_right _ (List.mem_of_getElem? (i := 876) (by decide +kernel))) rfl
theorem tw_878 : Cond.instanceMethod yX10_away ∈ pm_T := pm_in (List.mem_append_right _ (List.mem_of_getElem? (i := 878) (by decide +kernel))) rfl
theorem ts_38 : Cond.selects RX10 yX10_away yX10_away ∈ pm_T := pm_in (List.mem_append_left _ (List.mem_of_getElem? (i := 38) (by decide +kernel))) rfl
theorem vl_X10_135 : pm_LV RX10 135 yX10_away := ⟨tw_876, tw_878, ts_38⟩
theorem fl_X10_98 : pm_FL RX10 98 9 10 := ⟨RX10, TX10, 24, in_X10, rfl, by decide, Or.inl tw_703⟩
theorem tw_887 : Cond.code yX10_layApart cX10_layApart 4 none ∈ pm_T := pm_in (List.mem_append_right _ (List.mem_of_getElem? (i := 887) (by decide +kernel))) rfl
theorem my_X10_layApart : pm_Y yX10_layApart cX10_layApart 4 none 0 := ⟨tw_887, tw_11, ⟨by decide, by decide⟩, by decide +kernel⟩
theorem fl_X10_31 : pm_FL RX10 31 9 14 := ⟨RX10, TX10, 24, in_X10, rfl, by decide, Or.inl tw_707⟩
theorem tw_888 : Cond.constant RX10 138 (1000000) ∈ pm_T := pm_in (List.mem_append_right _ (List.mem_of_getElem? (i := 888) (by decide +kernel))) rfl
theorem kc_X10_138 : Cond.constant RX10 138 (1000000) ∈ pm_T := tw_888
theorem tw_883 : Cond.code yX10_round cX10_round 3 (some .int) ∈ pm_T := pm_in (List.mem_append_right _ (List.mem_of_getElem? (i := 883) (by decide +kernel))) rfl
theorem my_X10_round : pm_Y yX10_round cX10_round 3 (some .int) 2 := ⟨tw_883, tw_11, ⟨by decide, by decide⟩, by decide +kernel⟩
theorem tw_884 : Cond.methodLink RX10 139 yX10_layApart ∈ pm_T := pm_in (List.mem_append_right _ (List.mem_of_getElem? (i := 884) (by decide +kernel))) rfl
theorem tw_886 : Cond.instanceMethod yX10_layApart ∈ pm_T := pm_in (List.mem_append_right _ (List.mem_of_getElem? (i := 886) (by decide +kernel))) rfl
theorem ts_39 : Cond.selects RX10 yX10_layApart yX10_layApart ∈ pm_T := pm_in (List.mem_append_left _ (List.mem_of_getElem? (i := 39) (by decide +kernel))) rfl
theorem vl_X10_139 : pm_LV RX10 139 yX10_layApart := ⟨tw_884, tw_886, ts_39⟩
theorem tw_892 : Cond.code yX10_mends cX10_mends 9 (some .int) ∈ pm_T := pm_in (List.mem_append_right _ (List.mem_of_getElem? (i := 892) (by decide +kernel))) rfl
theorem my_X10_mends : pm_Y yX10_mends cX10_mends 9 (some .int) 1 := ⟨tw_892, tw_11, ⟨by decide, by decide⟩, by decide +kernel⟩
theorem tw_893 : Cond.methodLink RX10 142 yX10_has ∈ pm_T := pm_in (List.mem_append_right _ (List.mem_of_getElem? (i := 893) (by decide +kernel))) rfl
theorem tw_894 : Cond.static yX10_has ∈ pm_T := pm_in (List.mem_append_right _ (List.mem_of_getElem? (i := 894) (by decide +kernel))) rfl
theorem sl_X10_142 : pm_LS RX10 142 yX10_has := ⟨Or.inl tw_893, tw_894⟩
theorem fl_X10_34 : pm_FL RX10 34 9 15 := ⟨RX10, TX10, 24, in_X10, rfl, by decide, Or.inl tw_708⟩
theorem tw_907 : Cond.code yX10_placeOf cX10_placeOf 5 (some .int) ∈ pm_T := pm_in (List.mem_append_right _ (List.mem_of_getElem? (i := 907) (by decide +kernel))) rfl
theorem my_X10_placeOf : pm_Y yX10_placeOf cX10_placeOf 5 (some .int) 3 := ⟨tw_907, tw_11, ⟨by decide, by decide⟩, by decide +kernel⟩
theorem tw_911 : Cond.code yX10_isSteady cX10_isSteady 4 (some .boolean) ∈ pm_T := pm_in (List.mem_append_right _ (List.mem_of_getElem? (i := 911) (by decide +kernel))) rfl
theorem my_X10_isSteady : pm_Y yX10_isSteady cX10_isSteady 4 (some .boolean) 0 := ⟨tw_911, tw_11, ⟨by decide, by decide⟩, by decide +kernel⟩
theorem tw_904 : Cond.methodLink RX10 146 yX10_placeOf ∈ pm_T := pm_in (List.mem_append_right _ (List.mem_of_getElem? (i := 904) (by decide +kernel))) rfl
theorem tw_906 : Cond.instanceMethod yX10_placeOf ∈ pm_T := pm_in (List.mem_append_right _ (List.mem_of_getElem? (i := 906) (by decide +kernel))) rfl
theorem ts_41 : Cond.selects RX10 yX10_placeOf yX10_placeOf ∈ pm_T := pm_in (List.mem_append_left _ (List.mem_of_getElem? (i := 41) (by decide +kernel))) rfl
theorem vl_X10_146 : pm_LV RX10 146 yX10_placeOf := ⟨tw_904, tw_906, ts_41⟩
theorem fl_X10_37 : pm_FL RX10 37 9 16 := ⟨RX10, TX10, 24, in_X10, rfl, by decide, Or.inl tw_709⟩
theorem fl_X10_40 : pm_FL RX10 40 9 17 := ⟨RX10, TX10, 24, in_X10, rfl, by decide, Or.inl tw_710⟩
theorem tw_903 : Cond.code yX10_laySteady cX10_laySteady 8 (some .int) ∈ pm_T := pm_in (List.mem_append_right _ (List.mem_of_getElem? (i := 903) (by decide +kernel))) rfl
theorem my_X10_laySteady : pm_Y yX10_laySteady cX10_laySteady 8 (some .int) 1 := ⟨tw_903, tw_11, ⟨by decide, by decide⟩, by decide +kernel⟩
theorem tw_908 : Cond.methodLink RX10 150 yX10_isSteady ∈ pm_T := pm_in (List.mem_append_right _ (List.mem_of_getElem? (i := 908) (by decide +kernel))) rfl
theorem tw_910 : Cond.instanceMethod yX10_isSteady ∈ pm_T := pm_in (List.mem_append_right _ (List.mem_of_getElem? (i := 910) (by decide +kernel))) rfl
theorem ts_42 : Cond.selects RX10 yX10_isSteady yX10_isSteady ∈ pm_T := pm_in (List.mem_append_left _ (List.mem_of_getElem? (i := 42) (by decide +kernel))) rfl
theorem vl_X10_150 : pm_LV RX10 150 yX10_isSteady := ⟨tw_908, tw_910, ts_42⟩
theorem fl_X10_43 : pm_FL RX10 43 9 18 := ⟨RX10, TX10, 24, in_X10, rfl, by decide, Or.inl tw_711⟩
theorem tw_899 : Cond.code yX10_steady cX10_steady 1 (some .int) ∈ pm_T := pm_in (List.mem_append_right _ (List.mem_of_getElem? (i := 899) (by decide +kernel))) rfl
theorem my_X10_steady : pm_Y yX10_steady cX10_steady 1 (some .int) 0 := ⟨tw_899, tw_11, ⟨by decide, by decide⟩, by decide +kernel⟩
theorem tw_900 : Cond.methodLink RX10 154 yX10_laySteady ∈ pm_T := pm_in (List.mem_append_right _ (List.mem_of_getElem? (i := 900) (by decide +kernel))) rfl
theorem tw_902 : Cond.instanceMethod yX10_laySteady ∈ pm_T := pm_in (List.mem_append_right _ (List.mem_of_getElem? (i := 902) (by decide +kernel))) rfl
theorem ts_40 : Cond.selects RX10 yX10_laySteady yX10_laySteady ∈ pm_T := pm_in (List.mem_append_left _ (List.mem_of_getElem? (i := 40) (by decide +kernel))) rfl
theorem vl_X10_154 : pm_LV RX10 154 yX10_laySteady := ⟨tw_900, tw_902, ts_40⟩
theorem tw_915 : Cond.code yX10_wed cX10_wed 6 (some .int) ∈ pm_T := pm_in (List.mem_append_right _ (List.mem_of_getElem? (i := 915) (by decide +kernel))) rfl
theorem my_X10_wed : pm_Y yX10_wed cX10_wed 6 (some .int) 3 := ⟨tw_915, tw_11, ⟨by decide, by decide⟩, by decide +kernel⟩
theorem tw_919 : Cond.code yX10_seen cX10_seen 4 (some .int) ∈ pm_T := pm_in (List.mem_append_right _ (List.mem_of_getElem? (i := 919) (by decide +kernel))) rfl
theorem my_X10_seen : pm_Y yX10_seen cX10_seen 4 (some .int) 3 := ⟨tw_919, tw_11, ⟨by decide, by decide⟩, by decide +kernel⟩
theorem tw_697 : Cond.fieldLink RX10 157 (TX10 4).1 (TX10 4).2.1 (TX10 4).2.2.1 ∈ pm_T := pm_in (List.mem_append_right _ (List.mem_of_getElem? (i := 697) (by decide +kernel))) rfl
theorem fl_X10_157 : pm_FL RX10 157 9 4 := ⟨RX10, TX10, 24, in_X10, rfl, by decide, Or.inl tw_697⟩
theorem fl_X10_22 : pm_FL RX10 22 9 5 := ⟨RX10, TX10, 24, in_X10, rfl, by decide, Or.inl tw_698⟩
theorem fp_X10_157 : pm_FP RX10 157 9 4 false .int := ⟨RX10, TX10, 24, tyX10, in_X10, rfl, by decide, tw_697, tyX10_ok, nmX10, rfl, by decide +kernel, fun h => by cases h⟩
theorem tw_923 : Cond.code yX10_forget cX10_forget 2 (some .int) ∈ pm_T := pm_in (List.mem_append_right _ (List.mem_of_getElem? (i := 923) (by decide +kernel))) rfl
theorem my_X10_forget : pm_Y yX10_forget cX10_forget 2 (some .int) 0 := ⟨tw_923, tw_11, ⟨by decide, by decide⟩, by decide +kernel⟩
theorem tw_934 : Cond.code yX10_isDown cX10_isDown 3 (some .boolean) ∈ pm_T := pm_in (List.mem_append_right _ (List.mem_of_getElem? (i := 934) (by decide +kernel))) rfl
theorem my_X10_isDown : pm_Y yX10_isDown cX10_isDown 3 (some .boolean) 3 := ⟨tw_934, tw_11, ⟨by decide, by decide⟩, by decide +kernel⟩
theorem tw_931 : Cond.code yX10_isFit cX10_isFit 4 (some .boolean) ∈ pm_T := pm_in (List.mem_append_right _ (List.mem_of_getElem? (i := 931) (by decide +kernel))) rfl
theorem my_X10_isFit : pm_Y yX10_isFit cX10_isFit 4 (some .boolean) 1 := ⟨tw_931, tw_11, ⟨by decide, by decide⟩, by decide +kernel⟩
theorem tw_932 : Cond.methodLink RX10 160 yX10_isDown ∈ pm_T := pm_in (List.mem_append_right _ (List.mem_of_getElem? (i := 932) (by decide +kernel))) rfl
theorem tw_933 : Cond.static yX10_isDown ∈ pm_T := pm_in (List.mem_append_right _ (List.mem_of_getElem? (i := 933) (by decide +kernel))) rfl
theorem sl_X10_160 : pm_LS RX10 160 yX10_isDown := ⟨Or.inl tw_932, tw_933⟩
theorem tw_927 : Cond.code yX10_posts cX10_posts 4 (some .int) ∈ pm_T := pm_in (List.mem_append_right _ (List.mem_of_getElem? (i := 927) (by decide +kernel))) rfl
theorem my_X10_posts : pm_Y yX10_posts cX10_posts 4 (some .int) 1 := ⟨tw_927, tw_11, ⟨by decide, by decide⟩, by decide +kernel⟩
theorem tw_928 : Cond.methodLink RX10 163 yX10_isFit ∈ pm_T := pm_in (List.mem_append_right _ (List.mem_of_getElem? (i := 928) (by decide +kernel))) rfl
theorem tw_930 : Cond.instanceMethod yX10_isFit ∈ pm_T := pm_in (List.mem_append_right _ (List.mem_of_getElem? (i := 930) (by decide +kernel))) rfl
theorem ts_43 : Cond.selects RX10 yX10_isFit yX10_isFit ∈ pm_T := pm_in (List.mem_append_left _ (List.mem_of_getElem? (i := 43) (by decide +kernel))) rfl
theorem vl_X10_163 : pm_LV RX10 163 yX10_isFit := ⟨tw_928, tw_930, ts_43⟩
theorem tw_938 : Cond.code yX10_ask cX10_ask 8 (some .int) ∈ pm_T := pm_in (List.mem_append_right _ (List.mem_of_getElem? (i := 938) (by decide +kernel))) rfl
theorem my_X10_ask : pm_Y yX10_ask cX10_ask 8 (some .int) 1 := ⟨tw_938, tw_11, ⟨by decide, by decide⟩, by decide +kernel⟩
theorem fl_X10_46 : pm_FL RX10 46 9 19 := ⟨RX10, TX10, 24, in_X10, rfl, by decide, Or.inl tw_712⟩
theorem tw_946 : Cond.code yX10_layWorth cX10_layWorth 4 none ∈ pm_T := pm_in (List.mem_append_right _ (List.mem_of_getElem? (i := 946) (by decide +kernel))) rfl
theorem my_X10_layWorth : pm_Y yX10_layWorth cX10_layWorth 4 none 1 := ⟨tw_946, tw_11, ⟨by decide, by decide⟩, by decide +kernel⟩
theorem fl_X10_52 : pm_FL RX10 52 9 21 := ⟨RX10, TX10, 24, in_X10, rfl, by decide, Or.inl tw_714⟩
theorem fl_X10_49 : pm_FL RX10 49 9 20 := ⟨RX10, TX10, 24, in_X10, rfl, by decide, Or.inl tw_713⟩
theorem tw_942 : Cond.code yX10_heaps cX10_heaps 4 (some .int) ∈ pm_T := pm_in (List.mem_append_right _ (List.mem_of_getElem? (i := 942) (by decide +kernel))) rfl
theorem my_X10_heaps : pm_Y yX10_heaps cX10_heaps 4 (some .int) 2 := ⟨tw_942, tw_11, ⟨by decide, by decide⟩, by decide +kernel⟩
theorem tw_943 : Cond.methodLink RX10 166 yX10_layWorth ∈ pm_T := pm_in (List.mem_append_right _ (List.mem_of_getElem? (i := 943) (by decide +kernel))) rfl
theorem tw_945 : Cond.instanceMethod yX10_layWorth ∈ pm_T := pm_in (List.mem_append_right _ (List.mem_of_getElem? (i := 945) (by decide +kernel))) rfl
theorem ts_44 : Cond.selects RX10 yX10_layWorth yX10_layWorth ∈ pm_T := pm_in (List.mem_append_left _ (List.mem_of_getElem? (i := 44) (by decide +kernel))) rfl
theorem vl_X10_166 : pm_LV RX10 166 yX10_layWorth := ⟨tw_943, tw_945, ts_44⟩
theorem tw_954 : Cond.code yX10_power cX10_power 5 (some .long) ∈ pm_T := pm_in (List.mem_append_right _ (List.mem_of_getElem? (i := 954) (by decide +kernel))) rfl
theorem my_X10_power : pm_Y yX10_power cX10_power 5 (some .long) 2 := ⟨tw_954, tw_11, ⟨by decide, by decide⟩, by decide +kernel⟩
theorem tw_950 : Cond.code yX10_gust cX10_gust 16 (some .long) ∈ pm_T := pm_in (List.mem_append_right _ (List.mem_of_getElem? (i := 950) (by decide +kernel))) rfl
theorem my_X10_gust : pm_Y yX10_gust cX10_gust 16 (some .long) 5 := ⟨tw_950, tw_11, ⟨by decide, by decide⟩, by decide +kernel⟩
theorem tw_951 : Cond.constantLong RX10 170 (-1000000000000000002) ∈ pm_T := pm_in (List.mem_append_right _ (List.mem_of_getElem? (i := 951) (by decide +kernel))) rfl
theorem kc_X10_170 : Cond.constantLong RX10 170 (-1000000000000000002) ∈ pm_T := tw_951
theorem tw_952 : Cond.methodLink RX10 172 yX10_power ∈ pm_T := pm_in (List.mem_append_right _ (List.mem_of_getElem? (i := 952) (by decide +kernel))) rfl
theorem tw_953 : Cond.static yX10_power ∈ pm_T := pm_in (List.mem_append_right _ (List.mem_of_getElem? (i := 953) (by decide +kernel))) rfl
theorem sl_X10_172 : pm_LS RX10 172 yX10_power := ⟨Or.inl tw_952, tw_953⟩
theorem tw_958 : Cond.code yX10_year cX10_year 9 (some .int) ∈ pm_T := pm_in (List.mem_append_right _ (List.mem_of_getElem? (i := 958) (by decide +kernel))) rfl
theorem my_X10_year : pm_Y yX10_year cX10_year 9 (some .int) 3 := ⟨tw_958, tw_11, ⟨by decide, by decide⟩, by decide +kernel⟩
theorem tw_959 : Cond.constant RX10 176 (65537) ∈ pm_T := pm_in (List.mem_append_right _ (List.mem_of_getElem? (i := 959) (by decide +kernel))) rfl
theorem kc_X10_176 : Cond.constant RX10 176 (65537) ∈ pm_T := tw_959
theorem tw_963 : Cond.code yX10_image cX10_image 4 (some .int) ∈ pm_T := pm_in (List.mem_append_right _ (List.mem_of_getElem? (i := 963) (by decide +kernel))) rfl
theorem my_X10_image : pm_Y yX10_image cX10_image 4 (some .int) 1 := ⟨tw_963, tw_11, ⟨by decide, by decide⟩, by decide +kernel⟩
theorem fl_X10_56 : pm_FL RX10 56 9 22 := ⟨RX10, TX10, 24, in_X10, rfl, by decide, Or.inl tw_715⟩
theorem fl_X10_59 : pm_FL RX10 59 9 23 := ⟨RX10, TX10, 24, in_X10, rfl, by decide, Or.inl tw_716⟩
theorem tw_967 : Cond.code yX10_restore cX10_restore 4 (some .int) ∈ pm_T := pm_in (List.mem_append_right _ (List.mem_of_getElem? (i := 967) (by decide +kernel))) rfl
theorem my_X10_restore : pm_Y yX10_restore cX10_restore 4 (some .int) 1 := ⟨tw_967, tw_11, ⟨by decide, by decide⟩, by decide +kernel⟩
theorem tw_971 : Cond.code yX10_told cX10_told 4 (some .int) ∈ pm_T := pm_in (List.mem_append_right _ (List.mem_of_getElem? (i := 971) (by decide +kernel))) rfl
theorem my_X10_told : pm_Y yX10_told cX10_told 4 (some .int) 1 := ⟨tw_971, tw_11, ⟨by decide, by decide⟩, by decide +kernel⟩
theorem tw_433 : Cond.code yJ6_compare_7cf53 cJ6_compare_7cf53 2 (some .int) ∈ pm_T := pm_in (List.mem_append_right _ (List.mem_of_getElem? (i := 433) (by decide +kernel))) rfl
theorem tw_14 : Cond.initialized RJ6 ∈ pm_T := pm_in (List.mem_append_right _ (List.mem_of_getElem? (i := 14) (by decide +kernel))) rfl
theorem my_J6_compare_7cf53 : pm_Y yJ6_compare_7cf53 cJ6_compare_7cf53 2 (some .int) 2 := ⟨tw_433, tw_14, ⟨by decide, by decide⟩, by decide +kernel⟩
theorem tw_640 : Cond.code yJ6_bitCount_0f7a4 cJ6_bitCount_0f7a4 1 (some .int) ∈ pm_T := pm_in (List.mem_append_right _ (List.mem_of_getElem? (i := 640) (by decide +kernel))) rfl
theorem my_J6_bitCount_0f7a4 : pm_Y yJ6_bitCount_0f7a4 cJ6_bitCount_0f7a4 1 (some .int) 1 := ⟨tw_640, tw_14, ⟨by decide, by decide⟩, by decide +kernel⟩
theorem tw_641 : Cond.constant RJ6 265 (1431655765) ∈ pm_T := pm_in (List.mem_append_right _ (List.mem_of_getElem? (i := 641) (by decide +kernel))) rfl
theorem kc_J6_265 : Cond.constant RJ6 265 (1431655765) ∈ pm_T := tw_641
theorem tw_642 : Cond.constant RJ6 266 (858993459) ∈ pm_T := pm_in (List.mem_append_right _ (List.mem_of_getElem? (i := 642) (by decide +kernel))) rfl
theorem kc_J6_266 : Cond.constant RJ6 266 (858993459) ∈ pm_T := tw_642
theorem tw_643 : Cond.constant RJ6 267 (252645135) ∈ pm_T := pm_in (List.mem_append_right _ (List.mem_of_getElem? (i := 643) (by decide +kernel))) rfl
theorem kc_J6_267 : Cond.constant RJ6 267 (252645135) ∈ pm_T := tw_643
theorem tw_400 : Cond.code yJ9_max_7cf53 cJ9_max_7cf53 2 (some .int) ∈ pm_T := pm_in (List.mem_append_right _ (List.mem_of_getElem? (i := 400) (by decide +kernel))) rfl
theorem tw_13 : Cond.initialized RJ9 ∈ pm_T := pm_in (List.mem_append_right _ (List.mem_of_getElem? (i := 13) (by decide +kernel))) rfl
theorem my_J9_max_7cf53 : pm_Y yJ9_max_7cf53 cJ9_max_7cf53 2 (some .int) 2 := ⟨tw_400, tw_13, ⟨by decide, by decide⟩, by decide +kernel⟩
theorem tw_397 : Cond.code yJ9_min_7cf53 cJ9_min_7cf53 2 (some .int) ∈ pm_T := pm_in (List.mem_append_right _ (List.mem_of_getElem? (i := 397) (by decide +kernel))) rfl
theorem my_J9_min_7cf53 : pm_Y yJ9_min_7cf53 cJ9_min_7cf53 2 (some .int) 2 := ⟨tw_397, tw_13, ⟨by decide, by decide⟩, by decide +kernel⟩
theorem tw_38 : Cond.code yJ7_fill_53178 cJ7_fill_53178 4 none ∈ pm_T := pm_in (List.mem_append_right _ (List.mem_of_getElem? (i := 38) (by decide +kernel))) rfl
theorem tw_4 : Cond.initialized RJ7 ∈ pm_T := pm_in (List.mem_append_right _ (List.mem_of_getElem? (i := 4) (by decide +kernel))) rfl
theorem my_J7_fill_53178 : pm_Y yJ7_fill_53178 cJ7_fill_53178 4 none 2 := ⟨tw_38, tw_4, ⟨by decide, by decide⟩, by decide +kernel⟩
theorem tw_16 : Cond.classLink RL 7 RX9 ∈ pm_T := pm_in (List.mem_append_right _ (List.mem_of_getElem? (i := 16) (by decide +kernel))) rfl
theorem tw_17 : Cond.instantiable RX9 8 ∈ pm_T := pm_in (List.mem_append_right _ (List.mem_of_getElem? (i := 17) (by decide +kernel))) rfl
theorem nw_L_7 : Cond.classLink RL 7 RX9 ∈ pm_T ∧ Cond.instantiable RX9 8 ∈ pm_T ∧ Cond.initialized RX9 ∈ pm_T := ⟨tw_16, tw_17, tw_1⟩
theorem tw_18 : Cond.methodLink RL 9 yX9_init ∈ pm_T := pm_in (List.mem_append_right _ (List.mem_of_getElem? (i := 18) (by decide +kernel))) rfl
theorem tw_19 : Cond.instanceMethod yX9_init ∈ pm_T := pm_in (List.mem_append_right _ (List.mem_of_getElem? (i := 19) (by decide +kernel))) rfl
theorem il_L_9 : pm_LI RL 9 yX9_init := ⟨tw_18, tw_19, rfl⟩
theorem tw_687 : Cond.classLink RL 10 RX10 ∈ pm_T := pm_in (List.mem_append_right _ (List.mem_of_getElem? (i := 687) (by decide +kernel))) rfl
theorem tw_688 : Cond.instantiable RX10 24 ∈ pm_T := pm_in (List.mem_append_right _ (List.mem_of_getElem? (i := 688) (by decide +kernel))) rfl
theorem nw_L_10 : Cond.classLink RL 10 RX10 ∈ pm_T ∧ Cond.instantiable RX10 24 ∈ pm_T ∧ Cond.initialized RX10 ∈ pm_T := ⟨tw_687, tw_688, tw_11⟩
theorem tw_689 : Cond.methodLink RL 12 yX10_init ∈ pm_T := pm_in (List.mem_append_right _ (List.mem_of_getElem? (i := 689) (by decide +kernel))) rfl
theorem tw_690 : Cond.instanceMethod yX10_init ∈ pm_T := pm_in (List.mem_append_right _ (List.mem_of_getElem? (i := 690) (by decide +kernel))) rfl
theorem il_L_12 : pm_LI RL 12 yX10_init := ⟨tw_689, tw_690, rfl⟩
theorem tw_209 : Cond.methodLink RL 13 yX9_pale ∈ pm_T := pm_in (List.mem_append_right _ (List.mem_of_getElem? (i := 209) (by decide +kernel))) rfl
theorem tw_210 : Cond.instanceMethod yX9_pale ∈ pm_T := pm_in (List.mem_append_right _ (List.mem_of_getElem? (i := 210) (by decide +kernel))) rfl
theorem tw_211 : Cond.selects RX9 yX9_pale yX9_pale ∈ pm_T := pm_in (List.mem_append_right _ (List.mem_of_getElem? (i := 211) (by decide +kernel))) rfl
theorem vl_L_13 : pm_LV RL 13 yX9_pale := ⟨tw_209, tw_210, tw_211⟩
theorem tw_767 : Cond.methodLink RL 17 yX10_pale ∈ pm_T := pm_in (List.mem_append_right _ (List.mem_of_getElem? (i := 767) (by decide +kernel))) rfl
theorem tw_768 : Cond.instanceMethod yX10_pale ∈ pm_T := pm_in (List.mem_append_right _ (List.mem_of_getElem? (i := 768) (by decide +kernel))) rfl
theorem tw_769 : Cond.selects RX10 yX10_pale yX10_pale ∈ pm_T := pm_in (List.mem_append_right _ (List.mem_of_getElem? (i := 769) (by decide +kernel))) rfl
theorem vl_L_17 : pm_LV RL 17 yX10_pale := ⟨tw_767, tw_768, tw_769⟩
theorem tw_232 : Cond.methodLink RL 18 yX9_road ∈ pm_T := pm_in (List.mem_append_right _ (List.mem_of_getElem? (i := 232) (by decide +kernel))) rfl
theorem tw_233 : Cond.instanceMethod yX9_road ∈ pm_T := pm_in (List.mem_append_right _ (List.mem_of_getElem? (i := 233) (by decide +kernel))) rfl
theorem tw_234 : Cond.selects RX9 yX9_road yX9_road ∈ pm_T := pm_in (List.mem_append_right _ (List.mem_of_getElem? (i := 234) (by decide +kernel))) rfl
theorem vl_L_18 : pm_LV RL 18 yX9_road := ⟨tw_232, tw_233, tw_234⟩
theorem tw_785 : Cond.methodLink RL 21 yX10_road ∈ pm_T := pm_in (List.mem_append_right _ (List.mem_of_getElem? (i := 785) (by decide +kernel))) rfl
theorem tw_786 : Cond.instanceMethod yX10_road ∈ pm_T := pm_in (List.mem_append_right _ (List.mem_of_getElem? (i := 786) (by decide +kernel))) rfl
theorem tw_787 : Cond.selects RX10 yX10_road yX10_road ∈ pm_T := pm_in (List.mem_append_right _ (List.mem_of_getElem? (i := 787) (by decide +kernel))) rfl
theorem vl_L_21 : pm_LV RL 21 yX10_road := ⟨tw_785, tw_786, tw_787⟩
theorem tw_245 : Cond.methodLink RL 22 yX9_farm ∈ pm_T := pm_in (List.mem_append_right _ (List.mem_of_getElem? (i := 245) (by decide +kernel))) rfl
theorem tw_246 : Cond.instanceMethod yX9_farm ∈ pm_T := pm_in (List.mem_append_right _ (List.mem_of_getElem? (i := 246) (by decide +kernel))) rfl
theorem tw_247 : Cond.selects RX9 yX9_farm yX9_farm ∈ pm_T := pm_in (List.mem_append_right _ (List.mem_of_getElem? (i := 247) (by decide +kernel))) rfl
theorem vl_L_22 : pm_LV RL 22 yX9_farm := ⟨tw_245, tw_246, tw_247⟩
theorem tw_789 : Cond.methodLink RL 25 yX10_farm ∈ pm_T := pm_in (List.mem_append_right _ (List.mem_of_getElem? (i := 789) (by decide +kernel))) rfl
theorem tw_790 : Cond.instanceMethod yX10_farm ∈ pm_T := pm_in (List.mem_append_right _ (List.mem_of_getElem? (i := 790) (by decide +kernel))) rfl
theorem tw_791 : Cond.selects RX10 yX10_farm yX10_farm ∈ pm_T := pm_in (List.mem_append_right _ (List.mem_of_getElem? (i := 791) (by decide +kernel))) rfl
theorem vl_L_25 : pm_LV RL 25 yX10_farm := ⟨tw_789, tw_790, tw_791⟩
theorem tw_257 : Cond.methodLink RL 26 yX9_likes ∈ pm_T := pm_in (List.mem_append_right _ (List.mem_of_getElem? (i := 257) (by decide +kernel))) rfl
theorem tw_258 : Cond.instanceMethod yX9_likes ∈ pm_T := pm_in (List.mem_append_right _ (List.mem_of_getElem? (i := 258) (by decide +kernel))) rfl
theorem tw_259 : Cond.selects RX9 yX9_likes yX9_likes ∈ pm_T := pm_in (List.mem_append_right _ (List.mem_of_getElem? (i := 259) (by decide +kernel))) rfl
theorem vl_L_26 : pm_LV RL 26 yX9_likes := ⟨tw_257, tw_258, tw_259⟩
theorem tw_793 : Cond.methodLink RL 29 yX10_likes ∈ pm_T := pm_in (List.mem_append_right _ (List.mem_of_getElem? (i := 793) (by decide +kernel))) rfl
theorem tw_794 : Cond.instanceMethod yX10_likes ∈ pm_T := pm_in (List.mem_append_right _ (List.mem_of_getElem? (i := 794) (by decide +kernel))) rfl
theorem tw_795 : Cond.selects RX10 yX10_likes yX10_likes ∈ pm_T := pm_in (List.mem_append_right _ (List.mem_of_getElem? (i := 795) (by decide +kernel))) rfl
theorem vl_L_29 : pm_LV RL 29 yX10_likes := ⟨tw_793, tw_794, tw_795⟩
theorem tw_284 : Cond.methodLink RL 30 yX9_say ∈ pm_T := pm_in (List.mem_append_right _ (List.mem_of_getElem? (i := 284) (by decide +kernel))) rfl
theorem tw_285 : Cond.instanceMethod yX9_say ∈ pm_T := pm_in (List.mem_append_right _ (List.mem_of_getElem? (i := 285) (by decide +kernel))) rfl
theorem tw_286 : Cond.selects RX9 yX9_say yX9_say ∈ pm_T := pm_in (List.mem_append_right _ (List.mem_of_getElem? (i := 286) (by decide +kernel))) rfl
theorem vl_L_30 : pm_LV RL 30 yX9_say := ⟨tw_284, tw_285, tw_286⟩
theorem tw_801 : Cond.methodLink RL 34 yX10_say ∈ pm_T := pm_in (List.mem_append_right _ (List.mem_of_getElem? (i := 801) (by decide +kernel))) rfl
theorem tw_802 : Cond.instanceMethod yX10_say ∈ pm_T := pm_in (List.mem_append_right _ (List.mem_of_getElem? (i := 802) (by decide +kernel))) rfl
theorem tw_803 : Cond.selects RX10 yX10_say yX10_say ∈ pm_T := pm_in (List.mem_append_right _ (List.mem_of_getElem? (i := 803) (by decide +kernel))) rfl
theorem vl_L_34 : pm_LV RL 34 yX10_say := ⟨tw_801, tw_802, tw_803⟩
theorem tw_296 : Cond.methodLink RL 35 yX9_wipe ∈ pm_T := pm_in (List.mem_append_right _ (List.mem_of_getElem? (i := 296) (by decide +kernel))) rfl
theorem tw_297 : Cond.instanceMethod yX9_wipe ∈ pm_T := pm_in (List.mem_append_right _ (List.mem_of_getElem? (i := 297) (by decide +kernel))) rfl
theorem tw_298 : Cond.selects RX9 yX9_wipe yX9_wipe ∈ pm_T := pm_in (List.mem_append_right _ (List.mem_of_getElem? (i := 298) (by decide +kernel))) rfl
theorem vl_L_35 : pm_LV RL 35 yX9_wipe := ⟨tw_296, tw_297, tw_298⟩
theorem tw_805 : Cond.methodLink RL 39 yX10_wipe ∈ pm_T := pm_in (List.mem_append_right _ (List.mem_of_getElem? (i := 805) (by decide +kernel))) rfl
theorem tw_806 : Cond.instanceMethod yX10_wipe ∈ pm_T := pm_in (List.mem_append_right _ (List.mem_of_getElem? (i := 806) (by decide +kernel))) rfl
theorem tw_807 : Cond.selects RX10 yX10_wipe yX10_wipe ∈ pm_T := pm_in (List.mem_append_right _ (List.mem_of_getElem? (i := 807) (by decide +kernel))) rfl
theorem vl_L_39 : pm_LV RL 39 yX10_wipe := ⟨tw_805, tw_806, tw_807⟩
theorem tw_304 : Cond.methodLink RL 40 yX9_fault ∈ pm_T := pm_in (List.mem_append_right _ (List.mem_of_getElem? (i := 304) (by decide +kernel))) rfl
theorem tw_305 : Cond.instanceMethod yX9_fault ∈ pm_T := pm_in (List.mem_append_right _ (List.mem_of_getElem? (i := 305) (by decide +kernel))) rfl
theorem tw_306 : Cond.selects RX9 yX9_fault yX9_fault ∈ pm_T := pm_in (List.mem_append_right _ (List.mem_of_getElem? (i := 306) (by decide +kernel))) rfl
theorem vl_L_40 : pm_LV RL 40 yX9_fault := ⟨tw_304, tw_305, tw_306⟩
theorem tw_809 : Cond.methodLink RL 43 yX10_fault ∈ pm_T := pm_in (List.mem_append_right _ (List.mem_of_getElem? (i := 809) (by decide +kernel))) rfl
theorem tw_810 : Cond.instanceMethod yX10_fault ∈ pm_T := pm_in (List.mem_append_right _ (List.mem_of_getElem? (i := 810) (by decide +kernel))) rfl
theorem tw_811 : Cond.selects RX10 yX10_fault yX10_fault ∈ pm_T := pm_in (List.mem_append_right _ (List.mem_of_getElem? (i := 811) (by decide +kernel))) rfl
theorem vl_L_43 : pm_LV RL 43 yX10_fault := ⟨tw_809, tw_810, tw_811⟩
theorem tw_319 : Cond.methodLink RL 44 yX9_judge ∈ pm_T := pm_in (List.mem_append_right _ (List.mem_of_getElem? (i := 319) (by decide +kernel))) rfl
theorem tw_320 : Cond.instanceMethod yX9_judge ∈ pm_T := pm_in (List.mem_append_right _ (List.mem_of_getElem? (i := 320) (by decide +kernel))) rfl
theorem tw_321 : Cond.selects RX9 yX9_judge yX9_judge ∈ pm_T := pm_in (List.mem_append_right _ (List.mem_of_getElem? (i := 321) (by decide +kernel))) rfl
theorem vl_L_44 : pm_LV RL 44 yX9_judge := ⟨tw_319, tw_320, tw_321⟩
theorem tw_820 : Cond.methodLink RL 47 yX10_judge ∈ pm_T := pm_in (List.mem_append_right _ (List.mem_of_getElem? (i := 820) (by decide +kernel))) rfl
theorem tw_821 : Cond.instanceMethod yX10_judge ∈ pm_T := pm_in (List.mem_append_right _ (List.mem_of_getElem? (i := 821) (by decide +kernel))) rfl
theorem tw_822 : Cond.selects RX10 yX10_judge yX10_judge ∈ pm_T := pm_in (List.mem_append_right _ (List.mem_of_getElem? (i := 822) (by decide +kernel))) rfl
theorem vl_L_47 : pm_LV RL 47 yX10_judge := ⟨tw_820, tw_821, tw_822⟩
theorem tw_437 : Cond.methodLink RL 48 yX9_done ∈ pm_T := pm_in (List.mem_append_right _ (List.mem_of_getElem? (i := 437) (by decide +kernel))) rfl
theorem tw_438 : Cond.instanceMethod yX9_done ∈ pm_T := pm_in (List.mem_append_right _ (List.mem_of_getElem? (i := 438) (by decide +kernel))) rfl
theorem tw_439 : Cond.selects RX9 yX9_done yX9_done ∈ pm_T := pm_in (List.mem_append_right _ (List.mem_of_getElem? (i := 439) (by decide +kernel))) rfl
theorem vl_L_48 : pm_LV RL 48 yX9_done := ⟨tw_437, tw_438, tw_439⟩
theorem tw_856 : Cond.methodLink RL 51 yX10_done ∈ pm_T := pm_in (List.mem_append_right _ (List.mem_of_getElem? (i := 856) (by decide +kernel))) rfl
theorem tw_857 : Cond.instanceMethod yX10_done ∈ pm_T := pm_in (List.mem_append_right _ (List.mem_of_getElem? (i := 857) (by decide +kernel))) rfl
theorem tw_858 : Cond.selects RX10 yX10_done yX10_done ∈ pm_T := pm_in (List.mem_append_right _ (List.mem_of_getElem? (i := 858) (by decide +kernel))) rfl
theorem vl_L_51 : pm_LV RL 51 yX10_done := ⟨tw_856, tw_857, tw_858⟩
theorem tw_442 : Cond.methodLink RL 52 yX9_behind ∈ pm_T := pm_in (List.mem_append_right _ (List.mem_of_getElem? (i := 442) (by decide +kernel))) rfl
theorem tw_443 : Cond.instanceMethod yX9_behind ∈ pm_T := pm_in (List.mem_append_right _ (List.mem_of_getElem? (i := 443) (by decide +kernel))) rfl
theorem tw_444 : Cond.selects RX9 yX9_behind yX9_behind ∈ pm_T := pm_in (List.mem_append_right _ (List.mem_of_getElem? (i := 444) (by decide +kernel))) rfl
theorem vl_L_52 : pm_LV RL 52 yX9_behind := ⟨tw_442, tw_443, tw_444⟩
theorem tw_864 : Cond.methodLink RL 56 yX10_behind ∈ pm_T := pm_in (List.mem_append_right _ (List.mem_of_getElem? (i := 864) (by decide +kernel))) rfl
theorem tw_865 : Cond.instanceMethod yX10_behind ∈ pm_T := pm_in (List.mem_append_right _ (List.mem_of_getElem? (i := 865) (by decide +kernel))) rfl
theorem tw_866 : Cond.selects RX10 yX10_behind yX10_behind ∈ pm_T := pm_in (List.mem_append_right _ (List.mem_of_getElem? (i := 866) (by decide +kernel))) rfl
theorem vl_L_56 : pm_LV RL 56 yX10_behind := ⟨tw_864, tw_865, tw_866⟩
theorem tw_447 : Cond.methodLink RL 57 yX9_goes ∈ pm_T := pm_in (List.mem_append_right _ (List.mem_of_getElem? (i := 447) (by decide +kernel))) rfl
theorem tw_448 : Cond.instanceMethod yX9_goes ∈ pm_T := pm_in (List.mem_append_right _ (List.mem_of_getElem? (i := 448) (by decide +kernel))) rfl
theorem tw_449 : Cond.selects RX9 yX9_goes yX9_goes ∈ pm_T := pm_in (List.mem_append_right _ (List.mem_of_getElem? (i := 449) (by decide +kernel))) rfl
theorem vl_L_57 : pm_LV RL 57 yX9_goes := ⟨tw_447, tw_448, tw_449⟩
theorem tw_868 : Cond.methodLink RL 60 yX10_goes ∈ pm_T := pm_in (List.mem_append_right _ (List.mem_of_getElem? (i := 868) (by decide +kernel))) rfl
theorem tw_869 : Cond.instanceMethod yX10_goes ∈ pm_T := pm_in (List.mem_append_right _ (List.mem_of_getElem? (i := 869) (by decide +kernel))) rfl
theorem tw_870 : Cond.selects RX10 yX10_goes yX10_goes ∈ pm_T := pm_in (List.mem_append_right _ (List.mem_of_getElem? (i := 870) (by decide +kernel))) rfl
theorem vl_L_60 : pm_LV RL 60 yX10_goes := ⟨tw_868, tw_869, tw_870⟩
theorem tw_452 : Cond.methodLink RL 61 yX9_then ∈ pm_T := pm_in (List.mem_append_right _ (List.mem_of_getElem? (i := 452) (by decide +kernel))) rfl
theorem tw_453 : Cond.instanceMethod yX9_then ∈ pm_T := pm_in (List.mem_append_right _ (List.mem_of_getElem? (i := 453) (by decide +kernel))) rfl
theorem tw_454 : Cond.selects RX9 yX9_then yX9_then ∈ pm_T := pm_in (List.mem_append_right _ (List.mem_of_getElem? (i := 454) (by decide +kernel))) rfl
theorem vl_L_61 : pm_LV RL 61 yX9_then := ⟨tw_452, tw_453, tw_454⟩
theorem tw_872 : Cond.methodLink RL 64 yX10_then ∈ pm_T := pm_in (List.mem_append_right _ (List.mem_of_getElem? (i := 872) (by decide +kernel))) rfl
theorem tw_873 : Cond.instanceMethod yX10_then ∈ pm_T := pm_in (List.mem_append_right _ (List.mem_of_getElem? (i := 873) (by decide +kernel))) rfl
theorem tw_874 : Cond.selects RX10 yX10_then yX10_then ∈ pm_T := pm_in (List.mem_append_right _ (List.mem_of_getElem? (i := 874) (by decide +kernel))) rfl
theorem vl_L_64 : pm_LV RL 64 yX10_then := ⟨tw_872, tw_873, tw_874⟩
theorem tw_464 : Cond.methodLink RL 65 yX9_round ∈ pm_T := pm_in (List.mem_append_right _ (List.mem_of_getElem? (i := 464) (by decide +kernel))) rfl
theorem tw_465 : Cond.instanceMethod yX9_round ∈ pm_T := pm_in (List.mem_append_right _ (List.mem_of_getElem? (i := 465) (by decide +kernel))) rfl
theorem tw_466 : Cond.selects RX9 yX9_round yX9_round ∈ pm_T := pm_in (List.mem_append_right _ (List.mem_of_getElem? (i := 466) (by decide +kernel))) rfl
theorem vl_L_65 : pm_LV RL 65 yX9_round := ⟨tw_464, tw_465, tw_466⟩
theorem tw_880 : Cond.methodLink RL 68 yX10_round ∈ pm_T := pm_in (List.mem_append_right _ (List.mem_of_getElem? (i := 880) (by decide +kernel))) rfl
theorem tw_881 : Cond.instanceMethod yX10_round ∈ pm_T := pm_in (List.mem_append_right _ (List.mem_of_getElem? (i := 881) (by decide +kernel))) rfl
theorem tw_882 : Cond.selects RX10 yX10_round yX10_round ∈ pm_T := pm_in (List.mem_append_right _ (List.mem_of_getElem? (i := 882) (by decide +kernel))) rfl
theorem vl_L_68 : pm_LV RL 68 yX10_round := ⟨tw_880, tw_881, tw_882⟩
theorem tw_485 : Cond.methodLink RL 69 yX9_mends ∈ pm_T := pm_in (List.mem_append_right _ (List.mem_of_getElem? (i := 485) (by decide +kernel))) rfl
theorem tw_486 : Cond.instanceMethod yX9_mends ∈ pm_T := pm_in (List.mem_append_right _ (List.mem_of_getElem? (i := 486) (by decide +kernel))) rfl
theorem tw_487 : Cond.selects RX9 yX9_mends yX9_mends ∈ pm_T := pm_in (List.mem_append_right _ (List.mem_of_getElem? (i := 487) (by decide +kernel))) rfl
theorem vl_L_69 : pm_LV RL 69 yX9_mends := ⟨tw_485, tw_486, tw_487⟩
theorem tw_889 : Cond.methodLink RL 72 yX10_mends ∈ pm_T := pm_in (List.mem_append_right _ (List.mem_of_getElem? (i := 889) (by decide +kernel))) rfl
theorem tw_890 : Cond.instanceMethod yX10_mends ∈ pm_T := pm_in (List.mem_append_right _ (List.mem_of_getElem? (i := 890) (by decide +kernel))) rfl
theorem tw_891 : Cond.selects RX10 yX10_mends yX10_mends ∈ pm_T := pm_in (List.mem_append_right _ (List.mem_of_getElem? (i := 891) (by decide +kernel))) rfl
theorem vl_L_72 : pm_LV RL 72 yX10_mends := ⟨tw_889, tw_890, tw_891⟩
theorem tw_507 : Cond.methodLink RL 73 yX9_steady ∈ pm_T := pm_in (List.mem_append_right _ (List.mem_of_getElem? (i := 507) (by decide +kernel))) rfl
theorem tw_508 : Cond.instanceMethod yX9_steady ∈ pm_T := pm_in (List.mem_append_right _ (List.mem_of_getElem? (i := 508) (by decide +kernel))) rfl
theorem tw_509 : Cond.selects RX9 yX9_steady yX9_steady ∈ pm_T := pm_in (List.mem_append_right _ (List.mem_of_getElem? (i := 509) (by decide +kernel))) rfl
theorem vl_L_73 : pm_LV RL 73 yX9_steady := ⟨tw_507, tw_508, tw_509⟩
theorem tw_896 : Cond.methodLink RL 76 yX10_steady ∈ pm_T := pm_in (List.mem_append_right _ (List.mem_of_getElem? (i := 896) (by decide +kernel))) rfl
theorem tw_897 : Cond.instanceMethod yX10_steady ∈ pm_T := pm_in (List.mem_append_right _ (List.mem_of_getElem? (i := 897) (by decide +kernel))) rfl
theorem tw_898 : Cond.selects RX10 yX10_steady yX10_steady ∈ pm_T := pm_in (List.mem_append_right _ (List.mem_of_getElem? (i := 898) (by decide +kernel))) rfl
theorem vl_L_76 : pm_LV RL 76 yX10_steady := ⟨tw_896, tw_897, tw_898⟩
theorem tw_536 : Cond.methodLink RL 77 yX9_wed ∈ pm_T := pm_in (List.mem_append_right _ (List.mem_of_getElem? (i := 536) (by decide +kernel))) rfl
theorem tw_537 : Cond.instanceMethod yX9_wed ∈ pm_T := pm_in (List.mem_append_right _ (List.mem_of_getElem? (i := 537) (by decide +kernel))) rfl
theorem tw_538 : Cond.selects RX9 yX9_wed yX9_wed ∈ pm_T := pm_in (List.mem_append_right _ (List.mem_of_getElem? (i := 538) (by decide +kernel))) rfl
theorem vl_L_77 : pm_LV RL 77 yX9_wed := ⟨tw_536, tw_537, tw_538⟩
theorem tw_912 : Cond.methodLink RL 80 yX10_wed ∈ pm_T := pm_in (List.mem_append_right _ (List.mem_of_getElem? (i := 912) (by decide +kernel))) rfl
theorem tw_913 : Cond.instanceMethod yX10_wed ∈ pm_T := pm_in (List.mem_append_right _ (List.mem_of_getElem? (i := 913) (by decide +kernel))) rfl
theorem tw_914 : Cond.selects RX10 yX10_wed yX10_wed ∈ pm_T := pm_in (List.mem_append_right _ (List.mem_of_getElem? (i := 914) (by decide +kernel))) rfl
theorem vl_L_80 : pm_LV RL 80 yX10_wed := ⟨tw_912, tw_913, tw_914⟩
theorem tw_549 : Cond.methodLink RL 81 yX9_seen ∈ pm_T := pm_in (List.mem_append_right _ (List.mem_of_getElem? (i := 549) (by decide +kernel))) rfl
theorem tw_550 : Cond.instanceMethod yX9_seen ∈ pm_T := pm_in (List.mem_append_right _ (List.mem_of_getElem? (i := 550) (by decide +kernel))) rfl
theorem tw_551 : Cond.selects RX9 yX9_seen yX9_seen ∈ pm_T := pm_in (List.mem_append_right _ (List.mem_of_getElem? (i := 551) (by decide +kernel))) rfl
theorem vl_L_81 : pm_LV RL 81 yX9_seen := ⟨tw_549, tw_550, tw_551⟩
theorem tw_916 : Cond.methodLink RL 85 yX10_seen ∈ pm_T := pm_in (List.mem_append_right _ (List.mem_of_getElem? (i := 916) (by decide +kernel))) rfl
theorem tw_917 : Cond.instanceMethod yX10_seen ∈ pm_T := pm_in (List.mem_append_right _ (List.mem_of_getElem? (i := 917) (by decide +kernel))) rfl
theorem tw_918 : Cond.selects RX10 yX10_seen yX10_seen ∈ pm_T := pm_in (List.mem_append_right _ (List.mem_of_getElem? (i := 918) (by decide +kernel))) rfl
theorem vl_L_85 : pm_LV RL 85 yX10_seen := ⟨tw_916, tw_917, tw_918⟩
theorem tw_563 : Cond.methodLink RL 86 yX9_forget ∈ pm_T := pm_in (List.mem_append_right _ (List.mem_of_getElem? (i := 563) (by decide +kernel))) rfl
theorem tw_564 : Cond.instanceMethod yX9_forget ∈ pm_T := pm_in (List.mem_append_right _ (List.mem_of_getElem? (i := 564) (by decide +kernel))) rfl
theorem tw_565 : Cond.selects RX9 yX9_forget yX9_forget ∈ pm_T := pm_in (List.mem_append_right _ (List.mem_of_getElem? (i := 565) (by decide +kernel))) rfl
theorem vl_L_86 : pm_LV RL 86 yX9_forget := ⟨tw_563, tw_564, tw_565⟩
theorem tw_920 : Cond.methodLink RL 89 yX10_forget ∈ pm_T := pm_in (List.mem_append_right _ (List.mem_of_getElem? (i := 920) (by decide +kernel))) rfl
theorem tw_921 : Cond.instanceMethod yX10_forget ∈ pm_T := pm_in (List.mem_append_right _ (List.mem_of_getElem? (i := 921) (by decide +kernel))) rfl
theorem tw_922 : Cond.selects RX10 yX10_forget yX10_forget ∈ pm_T := pm_in (List.mem_append_right _ (List.mem_of_getElem? (i := 922) (by decide +kernel))) rfl
theorem vl_L_89 : pm_LV RL 89 yX10_forget := ⟨tw_920, tw_921, tw_922⟩
theorem tw_568 : Cond.methodLink RL 90 yX9_posts ∈ pm_T := pm_in (List.mem_append_right _ (List.mem_of_getElem? (i := 568) (by decide +kernel))) rfl
theorem tw_569 : Cond.instanceMethod yX9_posts ∈ pm_T := pm_in (List.mem_append_right _ (List.mem_of_getElem? (i := 569) (by decide +kernel))) rfl
theorem tw_570 : Cond.selects RX9 yX9_posts yX9_posts ∈ pm_T := pm_in (List.mem_append_right _ (List.mem_of_getElem? (i := 570) (by decide +kernel))) rfl
theorem vl_L_90 : pm_LV RL 90 yX9_posts := ⟨tw_568, tw_569, tw_570⟩
theorem tw_924 : Cond.methodLink RL 93 yX10_posts ∈ pm_T := pm_in (List.mem_append_right _ (List.mem_of_getElem? (i := 924) (by decide +kernel))) rfl
theorem tw_925 : Cond.instanceMethod yX10_posts ∈ pm_T := pm_in (List.mem_append_right _ (List.mem_of_getElem? (i := 925) (by decide +kernel))) rfl
theorem tw_926 : Cond.selects RX10 yX10_posts yX10_posts ∈ pm_T := pm_in (List.mem_append_right _ (List.mem_of_getElem? (i := 926) (by decide +kernel))) rfl
theorem vl_L_93 : pm_LV RL 93 yX10_posts := ⟨tw_924, tw_925, tw_926⟩
theorem tw_576 : Cond.methodLink RL 94 yX9_ask ∈ pm_T := pm_in (List.mem_append_right _ (List.mem_of_getElem? (i := 576) (by decide +kernel))) rfl
theorem tw_577 : Cond.instanceMethod yX9_ask ∈ pm_T := pm_in (List.mem_append_right _ (List.mem_of_getElem? (i := 577) (by decide +kernel))) rfl
theorem tw_578 : Cond.selects RX9 yX9_ask yX9_ask ∈ pm_T := pm_in (List.mem_append_right _ (List.mem_of_getElem? (i := 578) (by decide +kernel))) rfl
theorem vl_L_94 : pm_LV RL 94 yX9_ask := ⟨tw_576, tw_577, tw_578⟩
theorem tw_935 : Cond.methodLink RL 97 yX10_ask ∈ pm_T := pm_in (List.mem_append_right _ (List.mem_of_getElem? (i := 935) (by decide +kernel))) rfl
theorem tw_936 : Cond.instanceMethod yX10_ask ∈ pm_T := pm_in (List.mem_append_right _ (List.mem_of_getElem? (i := 936) (by decide +kernel))) rfl
theorem tw_937 : Cond.selects RX10 yX10_ask yX10_ask ∈ pm_T := pm_in (List.mem_append_right _ (List.mem_of_getElem? (i := 937) (by decide +kernel))) rfl
theorem vl_L_97 : pm_LV RL 97 yX10_ask := ⟨tw_935, tw_936, tw_937⟩
theorem tw_594 : Cond.methodLink RL 98 yX9_heaps ∈ pm_T := pm_in (List.mem_append_right _ (List.mem_of_getElem? (i := 594) (by decide +kernel))) rfl
theorem tw_595 : Cond.instanceMethod yX9_heaps ∈ pm_T := pm_in (List.mem_append_right _ (List.mem_of_getElem? (i := 595) (by decide +kernel))) rfl
theorem tw_596 : Cond.selects RX9 yX9_heaps yX9_heaps ∈ pm_T := pm_in (List.mem_append_right _ (List.mem_of_getElem? (i := 596) (by decide +kernel))) rfl
theorem vl_L_98 : pm_LV RL 98 yX9_heaps := ⟨tw_594, tw_595, tw_596⟩
theorem tw_939 : Cond.methodLink RL 101 yX10_heaps ∈ pm_T := pm_in (List.mem_append_right _ (List.mem_of_getElem? (i := 939) (by decide +kernel))) rfl
theorem tw_940 : Cond.instanceMethod yX10_heaps ∈ pm_T := pm_in (List.mem_append_right _ (List.mem_of_getElem? (i := 940) (by decide +kernel))) rfl
theorem tw_941 : Cond.selects RX10 yX10_heaps yX10_heaps ∈ pm_T := pm_in (List.mem_append_right _ (List.mem_of_getElem? (i := 941) (by decide +kernel))) rfl
theorem vl_L_101 : pm_LV RL 101 yX10_heaps := ⟨tw_939, tw_940, tw_941⟩
theorem tw_602 : Cond.methodLink RL 102 yX9_gust ∈ pm_T := pm_in (List.mem_append_right _ (List.mem_of_getElem? (i := 602) (by decide +kernel))) rfl
theorem tw_603 : Cond.instanceMethod yX9_gust ∈ pm_T := pm_in (List.mem_append_right _ (List.mem_of_getElem? (i := 603) (by decide +kernel))) rfl
theorem tw_604 : Cond.selects RX9 yX9_gust yX9_gust ∈ pm_T := pm_in (List.mem_append_right _ (List.mem_of_getElem? (i := 604) (by decide +kernel))) rfl
theorem vl_L_102 : pm_LV RL 102 yX9_gust := ⟨tw_602, tw_603, tw_604⟩
theorem tw_947 : Cond.methodLink RL 106 yX10_gust ∈ pm_T := pm_in (List.mem_append_right _ (List.mem_of_getElem? (i := 947) (by decide +kernel))) rfl
theorem tw_948 : Cond.instanceMethod yX10_gust ∈ pm_T := pm_in (List.mem_append_right _ (List.mem_of_getElem? (i := 948) (by decide +kernel))) rfl
theorem tw_949 : Cond.selects RX10 yX10_gust yX10_gust ∈ pm_T := pm_in (List.mem_append_right _ (List.mem_of_getElem? (i := 949) (by decide +kernel))) rfl
theorem vl_L_106 : pm_LV RL 106 yX10_gust := ⟨tw_947, tw_948, tw_949⟩
theorem tw_624 : Cond.methodLink RL 107 yX9_year ∈ pm_T := pm_in (List.mem_append_right _ (List.mem_of_getElem? (i := 624) (by decide +kernel))) rfl
theorem tw_625 : Cond.instanceMethod yX9_year ∈ pm_T := pm_in (List.mem_append_right _ (List.mem_of_getElem? (i := 625) (by decide +kernel))) rfl
theorem tw_626 : Cond.selects RX9 yX9_year yX9_year ∈ pm_T := pm_in (List.mem_append_right _ (List.mem_of_getElem? (i := 626) (by decide +kernel))) rfl
theorem vl_L_107 : pm_LV RL 107 yX9_year := ⟨tw_624, tw_625, tw_626⟩
theorem tw_955 : Cond.methodLink RL 110 yX10_year ∈ pm_T := pm_in (List.mem_append_right _ (List.mem_of_getElem? (i := 955) (by decide +kernel))) rfl
theorem tw_956 : Cond.instanceMethod yX10_year ∈ pm_T := pm_in (List.mem_append_right _ (List.mem_of_getElem? (i := 956) (by decide +kernel))) rfl
theorem tw_957 : Cond.selects RX10 yX10_year yX10_year ∈ pm_T := pm_in (List.mem_append_right _ (List.mem_of_getElem? (i := 957) (by decide +kernel))) rfl
theorem vl_L_110 : pm_LV RL 110 yX10_year := ⟨tw_955, tw_956, tw_957⟩
theorem tw_644 : Cond.methodLink RL 111 yX9_image ∈ pm_T := pm_in (List.mem_append_right _ (List.mem_of_getElem? (i := 644) (by decide +kernel))) rfl
theorem tw_645 : Cond.instanceMethod yX9_image ∈ pm_T := pm_in (List.mem_append_right _ (List.mem_of_getElem? (i := 645) (by decide +kernel))) rfl
theorem tw_646 : Cond.selects RX9 yX9_image yX9_image ∈ pm_T := pm_in (List.mem_append_right _ (List.mem_of_getElem? (i := 646) (by decide +kernel))) rfl
theorem vl_L_111 : pm_LV RL 111 yX9_image := ⟨tw_644, tw_645, tw_646⟩
theorem tw_960 : Cond.methodLink RL 114 yX10_image ∈ pm_T := pm_in (List.mem_append_right _ (List.mem_of_getElem? (i := 960) (by decide +kernel))) rfl
theorem tw_961 : Cond.instanceMethod yX10_image ∈ pm_T := pm_in (List.mem_append_right _ (List.mem_of_getElem? (i := 961) (by decide +kernel))) rfl
theorem tw_962 : Cond.selects RX10 yX10_image yX10_image ∈ pm_T := pm_in (List.mem_append_right _ (List.mem_of_getElem? (i := 962) (by decide +kernel))) rfl
theorem vl_L_114 : pm_LV RL 114 yX10_image := ⟨tw_960, tw_961, tw_962⟩
theorem tw_663 : Cond.methodLink RL 115 yX9_restore ∈ pm_T := pm_in (List.mem_append_right _ (List.mem_of_getElem? (i := 663) (by decide +kernel))) rfl
theorem tw_664 : Cond.instanceMethod yX9_restore ∈ pm_T := pm_in (List.mem_append_right _ (List.mem_of_getElem? (i := 664) (by decide +kernel))) rfl
theorem tw_665 : Cond.selects RX9 yX9_restore yX9_restore ∈ pm_T := pm_in (List.mem_append_right _ (List.mem_of_getElem? (i := 665) (by decide +kernel))) rfl
theorem vl_L_115 : pm_LV RL 115 yX9_restore := ⟨tw_663, tw_664, tw_665⟩
theorem tw_964 : Cond.methodLink RL 118 yX10_restore ∈ pm_T := pm_in (List.mem_append_right _ (List.mem_of_getElem? (i := 964) (by decide +kernel))) rfl
theorem tw_965 : Cond.instanceMethod yX10_restore ∈ pm_T := pm_in (List.mem_append_right _ (List.mem_of_getElem? (i := 965) (by decide +kernel))) rfl
theorem tw_966 : Cond.selects RX10 yX10_restore yX10_restore ∈ pm_T := pm_in (List.mem_append_right _ (List.mem_of_getElem? (i := 966) (by decide +kernel))) rfl
theorem vl_L_118 : pm_LV RL 118 yX10_restore := ⟨tw_964, tw_965, tw_966⟩
theorem tw_667 : Cond.methodLink RL 119 yX9_told ∈ pm_T := pm_in (List.mem_append_right _ (List.mem_of_getElem? (i := 667) (by decide +kernel))) rfl
theorem tw_668 : Cond.instanceMethod yX9_told ∈ pm_T := pm_in (List.mem_append_right _ (List.mem_of_getElem? (i := 668) (by decide +kernel))) rfl
theorem tw_669 : Cond.selects RX9 yX9_told yX9_told ∈ pm_T := pm_in (List.mem_append_right _ (List.mem_of_getElem? (i := 669) (by decide +kernel))) rfl
theorem vl_L_119 : pm_LV RL 119 yX9_told := ⟨tw_667, tw_668, tw_669⟩
theorem tw_968 : Cond.methodLink RL 122 yX10_told ∈ pm_T := pm_in (List.mem_append_right _ (List.mem_of_getElem? (i := 968) (by decide +kernel))) rfl
theorem tw_969 : Cond.instanceMethod yX10_told ∈ pm_T := pm_in (List.mem_append_right _ (List.mem_of_getElem? (i := 969) (by decide +kernel))) rfl
theorem tw_970 : Cond.selects RX10 yX10_told yX10_told ∈ pm_T := pm_in (List.mem_append_right _ (List.mem_of_getElem? (i := 970) (by decide +kernel))) rfl
theorem vl_L_122 : pm_LV RL 122 yX10_told := ⟨tw_968, tw_969, tw_970⟩
theorem tw_56 : Cond.arrayClass .int ∈ pm_T := pm_in (List.mem_append_right _ (List.mem_of_getElem? (i := 56) (by decide +kernel))) rfl
theorem tw_766 : Cond.arrayClass .boolean ∈ pm_T := pm_in (List.mem_append_right _ (List.mem_of_getElem? (i := 766) (by decide +kernel))) rfl
theorem ar_int : Cond.arrayClass .int ∈ pm_T := tw_56
theorem ar_bool : Cond.arrayClass .boolean ∈ pm_T := tw_766
end
