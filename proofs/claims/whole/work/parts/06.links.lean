theorem pm_ws {C : String} {T : u_T} {N : Nat} (h : ∀ k, k < N → u_lay C T k ∈ pm_T) : ∀ w ∈ u_ws C T N, w ∈ pm_T := by
  intro w hw
  obtain ⟨k, hk, rfl⟩ := List.mem_map.mp hw
  exact h k (List.mem_range.mp hk)
theorem tw_65 : u_lay RX1 TX1 0 ∈ pm_T := pm_in (List.mem_append_right _ (List.mem_of_getElem? (i := 65) (by decide +kernel))) rfl
theorem tw_67 : u_lay RX1 TX1 1 ∈ pm_T := pm_in (List.mem_append_right _ (List.mem_of_getElem? (i := 67) (by decide +kernel))) rfl
theorem in_X1 : ∀ w ∈ u_ws RX1 TX1 2, w ∈ pm_T := pm_ws (fun k hk => match k, hk with
  | 0, _ => tw_65
  | 1, _ => tw_67
  | k + 2, h => absurd h (by omega))
theorem tw_45 : u_lay RX2 TX2 0 ∈ pm_T := pm_in (List.mem_append_right _ (List.mem_of_getElem? (i := 45) (by decide +kernel))) rfl
theorem tw_47 : u_lay RX2 TX2 1 ∈ pm_T := pm_in (List.mem_append_right _ (List.mem_of_getElem? (i := 47) (by decide +kernel))) rfl
theorem tw_49 : u_lay RX2 TX2 2 ∈ pm_T := pm_in (List.mem_append_right _ (List.mem_of_getElem? (i := 49) (by decide +kernel))) rfl
theorem tw_51 : u_lay RX2 TX2 3 ∈ pm_T := pm_in (List.mem_append_right _ (List.mem_of_getElem? (i := 51) (by decide +kernel))) rfl
theorem tw_53 : u_lay RX2 TX2 4 ∈ pm_T := pm_in (List.mem_append_right _ (List.mem_of_getElem? (i := 53) (by decide +kernel))) rfl
theorem in_X2 : ∀ w ∈ u_ws RX2 TX2 5, w ∈ pm_T := pm_ws (fun k hk => match k, hk with
  | 0, _ => tw_45
  | 1, _ => tw_47
  | 2, _ => tw_49
  | 3, _ => tw_51
  | 4, _ => tw_53
  | k + 5, h => absurd h (by omega))
theorem tw_122 : u_lay RX3 TX3 0 ∈ pm_T := pm_in (List.mem_append_right _ (List.mem_of_getElem? (i := 122) (by decide +kernel))) rfl
theorem tw_124 : u_lay RX3 TX3 1 ∈ pm_T := pm_in (List.mem_append_right _ (List.mem_of_getElem? (i := 124) (by decide +kernel))) rfl
theorem in_X3 : ∀ w ∈ u_ws RX3 TX3 2, w ∈ pm_T := pm_ws (fun k hk => match k, hk with
  | 0, _ => tw_122
  | 1, _ => tw_124
  | k + 2, h => absurd h (by omega))
theorem tw_181 : u_lay RX4 TX4 0 ∈ pm_T := pm_in (List.mem_append_right _ (List.mem_of_getElem? (i := 181) (by decide +kernel))) rfl
theorem in_X4 : ∀ w ∈ u_ws RX4 TX4 1, w ∈ pm_T := pm_ws (fun k hk => match k, hk with
  | 0, _ => tw_181
  | k + 1, h => absurd h (by omega))
theorem tw_166 : u_lay RX5 TX5 0 ∈ pm_T := pm_in (List.mem_append_right _ (List.mem_of_getElem? (i := 166) (by decide +kernel))) rfl
theorem tw_168 : u_lay RX5 TX5 1 ∈ pm_T := pm_in (List.mem_append_right _ (List.mem_of_getElem? (i := 168) (by decide +kernel))) rfl
theorem in_X5 : ∀ w ∈ u_ws RX5 TX5 2, w ∈ pm_T := pm_ws (fun k hk => match k, hk with
  | 0, _ => tw_166
  | 1, _ => tw_168
  | k + 2, h => absurd h (by omega))
theorem tw_86 : u_lay RX6 TX6 0 ∈ pm_T := pm_in (List.mem_append_right _ (List.mem_of_getElem? (i := 86) (by decide +kernel))) rfl
theorem tw_88 : u_lay RX6 TX6 1 ∈ pm_T := pm_in (List.mem_append_right _ (List.mem_of_getElem? (i := 88) (by decide +kernel))) rfl
theorem tw_90 : u_lay RX6 TX6 2 ∈ pm_T := pm_in (List.mem_append_right _ (List.mem_of_getElem? (i := 90) (by decide +kernel))) rfl
theorem tw_92 : u_lay RX6 TX6 3 ∈ pm_T := pm_in (List.mem_append_right _ (List.mem_of_getElem? (i := 92) (by decide +kernel))) rfl
theorem in_X6 : ∀ w ∈ u_ws RX6 TX6 4, w ∈ pm_T := pm_ws (fun k hk => match k, hk with
  | 0, _ => tw_86
  | 1, _ => tw_88
  | 2, _ => tw_90
  | 3, _ => tw_92
  | k + 4, h => absurd h (by omega))
theorem tw_145 : u_lay RX7 TX7 0 ∈ pm_T := pm_in (List.mem_append_right _ (List.mem_of_getElem? (i := 145) (by decide +kernel))) rfl
theorem tw_147 : u_lay RX7 TX7 1 ∈ pm_T := pm_in (List.mem_append_right _ (List.mem_of_getElem? (i := 147) (by decide +kernel))) rfl
theorem tw_149 : u_lay RX7 TX7 2 ∈ pm_T := pm_in (List.mem_append_right _ (List.mem_of_getElem? (i := 149) (by decide +kernel))) rfl
theorem tw_151 : u_lay RX7 TX7 3 ∈ pm_T := pm_in (List.mem_append_right _ (List.mem_of_getElem? (i := 151) (by decide +kernel))) rfl
theorem tw_153 : u_lay RX7 TX7 4 ∈ pm_T := pm_in (List.mem_append_right _ (List.mem_of_getElem? (i := 153) (by decide +kernel))) rfl
theorem tw_155 : u_lay RX7 TX7 5 ∈ pm_T := pm_in (List.mem_append_right _ (List.mem_of_getElem? (i := 155) (by decide +kernel))) rfl
theorem in_X7 : ∀ w ∈ u_ws RX7 TX7 6, w ∈ pm_T := pm_ws (fun k hk => match k, hk with
  | 0, _ => tw_145
  | 1, _ => tw_147
  | 2, _ => tw_149
  | 3, _ => tw_151
  | 4, _ => tw_153
  | 5, _ => tw_155
  | k + 6, h => absurd h (by omega))
theorem tw_103 : u_lay RX8 TX8 0 ∈ pm_T := pm_in (List.mem_append_right _ (List.mem_of_getElem? (i := 103) (by decide +kernel))) rfl
theorem tw_105 : u_lay RX8 TX8 1 ∈ pm_T := pm_in (List.mem_append_right _ (List.mem_of_getElem? (i := 105) (by decide +kernel))) rfl
theorem tw_107 : u_lay RX8 TX8 2 ∈ pm_T := pm_in (List.mem_append_right _ (List.mem_of_getElem? (i := 107) (by decide +kernel))) rfl
theorem tw_109 : u_lay RX8 TX8 3 ∈ pm_T := pm_in (List.mem_append_right _ (List.mem_of_getElem? (i := 109) (by decide +kernel))) rfl
theorem in_X8 : ∀ w ∈ u_ws RX8 TX8 4, w ∈ pm_T := pm_ws (fun k hk => match k, hk with
  | 0, _ => tw_103
  | 1, _ => tw_105
  | 2, _ => tw_107
  | 3, _ => tw_109
  | k + 4, h => absurd h (by omega))
theorem tw_192 : u_lay RX9 TX9 0 ∈ pm_T := pm_in (List.mem_append_right _ (List.mem_of_getElem? (i := 192) (by decide +kernel))) rfl
theorem tw_194 : u_lay RX9 TX9 1 ∈ pm_T := pm_in (List.mem_append_right _ (List.mem_of_getElem? (i := 194) (by decide +kernel))) rfl
theorem tw_196 : u_lay RX9 TX9 2 ∈ pm_T := pm_in (List.mem_append_right _ (List.mem_of_getElem? (i := 196) (by decide +kernel))) rfl
theorem tw_198 : u_lay RX9 TX9 3 ∈ pm_T := pm_in (List.mem_append_right _ (List.mem_of_getElem? (i := 198) (by decide +kernel))) rfl
theorem tw_200 : u_lay RX9 TX9 4 ∈ pm_T := pm_in (List.mem_append_right _ (List.mem_of_getElem? (i := 200) (by decide +kernel))) rfl
theorem tw_202 : u_lay RX9 TX9 5 ∈ pm_T := pm_in (List.mem_append_right _ (List.mem_of_getElem? (i := 202) (by decide +kernel))) rfl
theorem tw_204 : u_lay RX9 TX9 6 ∈ pm_T := pm_in (List.mem_append_right _ (List.mem_of_getElem? (i := 204) (by decide +kernel))) rfl
theorem tw_206 : u_lay RX9 TX9 7 ∈ pm_T := pm_in (List.mem_append_right _ (List.mem_of_getElem? (i := 206) (by decide +kernel))) rfl
theorem in_X9 : ∀ w ∈ u_ws RX9 TX9 8, w ∈ pm_T := pm_ws (fun k hk => match k, hk with
  | 0, _ => tw_192
  | 1, _ => tw_194
  | 2, _ => tw_196
  | 3, _ => tw_198
  | 4, _ => tw_200
  | 5, _ => tw_202
  | 6, _ => tw_204
  | 7, _ => tw_206
  | k + 8, h => absurd h (by omega))
theorem tw_717 : u_lay RX10 TX10 0 ∈ pm_T := pm_in (List.mem_append_right _ (List.mem_of_getElem? (i := 717) (by decide +kernel))) rfl
theorem tw_719 : u_lay RX10 TX10 1 ∈ pm_T := pm_in (List.mem_append_right _ (List.mem_of_getElem? (i := 719) (by decide +kernel))) rfl
theorem tw_721 : u_lay RX10 TX10 2 ∈ pm_T := pm_in (List.mem_append_right _ (List.mem_of_getElem? (i := 721) (by decide +kernel))) rfl
theorem tw_723 : u_lay RX10 TX10 3 ∈ pm_T := pm_in (List.mem_append_right _ (List.mem_of_getElem? (i := 723) (by decide +kernel))) rfl
theorem tw_725 : u_lay RX10 TX10 4 ∈ pm_T := pm_in (List.mem_append_right _ (List.mem_of_getElem? (i := 725) (by decide +kernel))) rfl
theorem tw_727 : u_lay RX10 TX10 5 ∈ pm_T := pm_in (List.mem_append_right _ (List.mem_of_getElem? (i := 727) (by decide +kernel))) rfl
theorem tw_729 : u_lay RX10 TX10 6 ∈ pm_T := pm_in (List.mem_append_right _ (List.mem_of_getElem? (i := 729) (by decide +kernel))) rfl
theorem tw_731 : u_lay RX10 TX10 7 ∈ pm_T := pm_in (List.mem_append_right _ (List.mem_of_getElem? (i := 731) (by decide +kernel))) rfl
theorem tw_733 : u_lay RX10 TX10 8 ∈ pm_T := pm_in (List.mem_append_right _ (List.mem_of_getElem? (i := 733) (by decide +kernel))) rfl
theorem tw_735 : u_lay RX10 TX10 9 ∈ pm_T := pm_in (List.mem_append_right _ (List.mem_of_getElem? (i := 735) (by decide +kernel))) rfl
theorem tw_737 : u_lay RX10 TX10 10 ∈ pm_T := pm_in (List.mem_append_right _ (List.mem_of_getElem? (i := 737) (by decide +kernel))) rfl
theorem tw_739 : u_lay RX10 TX10 11 ∈ pm_T := pm_in (List.mem_append_right _ (List.mem_of_getElem? (i := 739) (by decide +kernel))) rfl
theorem tw_741 : u_lay RX10 TX10 12 ∈ pm_T := pm_in (List.mem_append_right _ (List.mem_of_getElem? (i := 741) (by decide +kernel))) rfl
theorem tw_743 : u_lay RX10 TX10 13 ∈ pm_T := pm_in (List.mem_append_right _ (List.mem_of_getElem? (i := 743) (by decide +kernel))) rfl
theorem tw_745 : u_lay RX10 TX10 14 ∈ pm_T := pm_in (List.mem_append_right _ (List.mem_of_getElem? (i := 745) (by decide +kernel))) rfl
theorem tw_747 : u_lay RX10 TX10 15 ∈ pm_T := pm_in (List.mem_append_right _ (List.mem_of_getElem? (i := 747) (by decide +kernel))) rfl
theorem tw_749 : u_lay RX10 TX10 16 ∈ pm_T := pm_in (List.mem_append_right _ (List.mem_of_getElem? (i := 749) (by decide +kernel))) rfl
theorem tw_751 : u_lay RX10 TX10 17 ∈ pm_T := pm_in (List.mem_append_right _ (List.mem_of_getElem? (i := 751) (by decide +kernel))) rfl
theorem tw_753 : u_lay RX10 TX10 18 ∈ pm_T := pm_in (List.mem_append_right _ (List.mem_of_getElem? (i := 753) (by decide +kernel))) rfl
theorem tw_755 : u_lay RX10 TX10 19 ∈ pm_T := pm_in (List.mem_append_right _ (List.mem_of_getElem? (i := 755) (by decide +kernel))) rfl
theorem tw_757 : u_lay RX10 TX10 20 ∈ pm_T := pm_in (List.mem_append_right _ (List.mem_of_getElem? (i := 757) (by decide +kernel))) rfl
theorem tw_759 : u_lay RX10 TX10 21 ∈ pm_T := pm_in (List.mem_append_right _ (List.mem_of_getElem? (i := 759) (by decide +kernel))) rfl
theorem tw_761 : u_lay RX10 TX10 22 ∈ pm_T := pm_in (List.mem_append_right _ (List.mem_of_getElem? (i := 761) (by decide +kernel))) rfl
theorem tw_763 : u_lay RX10 TX10 23 ∈ pm_T := pm_in (List.mem_append_right _ (List.mem_of_getElem? (i := 763) (by decide +kernel))) rfl
theorem in_X10 : ∀ w ∈ u_ws RX10 TX10 24, w ∈ pm_T := pm_ws (fun k hk => match k, hk with
  | 0, _ => tw_717
  | 1, _ => tw_719
  | 2, _ => tw_721
  | 3, _ => tw_723
  | 4, _ => tw_725
  | 5, _ => tw_727
  | 6, _ => tw_729
  | 7, _ => tw_731
  | 8, _ => tw_733
  | 9, _ => tw_735
  | 10, _ => tw_737
  | 11, _ => tw_739
  | 12, _ => tw_741
  | 13, _ => tw_743
  | 14, _ => tw_745
  | 15, _ => tw_747
  | 16, _ => tw_749
  | 17, _ => tw_751
  | 18, _ => tw_753
  | 19, _ => tw_755
  | 20, _ => tw_757
  | 21, _ => tw_759
  | 22, _ => tw_761
  | 23, _ => tw_763
  | k + 24, h => absurd h (by omega))
theorem tw_612 : Cond.code yX0_power cX0_power 5 (some .long) ∈ pm_T := pm_in (List.mem_append_right _ (List.mem_of_getElem? (i := 612) (by decide +kernel))) rfl
theorem tw_15 : Cond.initialized RX0 ∈ pm_T := pm_in (List.mem_append_right _ (List.mem_of_getElem? (i := 15) (by decide +kernel))) rfl
theorem my_X0_power : pm_Y yX0_power cX0_power 5 (some .long) 2 := ⟨tw_612, tw_15, ⟨by decide, by decide⟩, by decide +kernel⟩
theorem tw_609 : Cond.code yX0_waysOfJust cX0_waysOfJust 2 (some .long) ∈ pm_T := pm_in (List.mem_append_right _ (List.mem_of_getElem? (i := 609) (by decide +kernel))) rfl
theorem my_X0_waysOfJust : pm_Y yX0_waysOfJust cX0_waysOfJust 2 (some .long) 2 := ⟨tw_609, tw_15, ⟨by decide, by decide⟩, by decide +kernel⟩
theorem tw_610 : Cond.methodLink RX0 7 yX0_power ∈ pm_T := pm_in (List.mem_append_right _ (List.mem_of_getElem? (i := 610) (by decide +kernel))) rfl
theorem tw_611 : Cond.static yX0_power ∈ pm_T := pm_in (List.mem_append_right _ (List.mem_of_getElem? (i := 611) (by decide +kernel))) rfl
theorem sl_X0_7 : pm_LS RX0 7 yX0_power := ⟨Or.inl tw_610, tw_611⟩
theorem tw_615 : Cond.code yX0_sumOfStrongest cX0_sumOfStrongest 5 (some .long) ∈ pm_T := pm_in (List.mem_append_right _ (List.mem_of_getElem? (i := 615) (by decide +kernel))) rfl
theorem my_X0_sumOfStrongest : pm_Y yX0_sumOfStrongest cX0_sumOfStrongest 5 (some .long) 2 := ⟨tw_615, tw_15, ⟨by decide, by decide⟩, by decide +kernel⟩
theorem tw_616 : Cond.methodLink RX0 13 yX0_waysOfJust ∈ pm_T := pm_in (List.mem_append_right _ (List.mem_of_getElem? (i := 616) (by decide +kernel))) rfl
theorem tw_608 : Cond.static yX0_waysOfJust ∈ pm_T := pm_in (List.mem_append_right _ (List.mem_of_getElem? (i := 608) (by decide +kernel))) rfl
theorem sl_X0_13 : pm_LS RX0 13 yX0_waysOfJust := ⟨Or.inl tw_616, tw_608⟩
theorem tw_620 : Cond.code yX0_partInLowestTerms cX0_partInLowestTerms 9 (some .long) ∈ pm_T := pm_in (List.mem_append_right _ (List.mem_of_getElem? (i := 620) (by decide +kernel))) rfl
theorem my_X0_partInLowestTerms : pm_Y yX0_partInLowestTerms cX0_partInLowestTerms 9 (some .long) 3 := ⟨tw_620, tw_15, ⟨by decide, by decide⟩, by decide +kernel⟩
theorem tw_621 : Cond.methodLink RX0 16 yX0_greatestCommon ∈ pm_T := pm_in (List.mem_append_right _ (List.mem_of_getElem? (i := 621) (by decide +kernel))) rfl
theorem tw_622 : Cond.static yX0_greatestCommon ∈ pm_T := pm_in (List.mem_append_right _ (List.mem_of_getElem? (i := 622) (by decide +kernel))) rfl
theorem sl_X0_16 : pm_LS RX0 16 yX0_greatestCommon := ⟨Or.inl tw_621, tw_622⟩
theorem tw_623 : Cond.code yX0_greatestCommon cX0_greatestCommon 11 (some .long) ∈ pm_T := pm_in (List.mem_append_right _ (List.mem_of_getElem? (i := 623) (by decide +kernel))) rfl
theorem my_X0_greatestCommon : pm_Y yX0_greatestCommon cX0_greatestCommon 11 (some .long) 2 := ⟨tw_623, tw_15, ⟨by decide, by decide⟩, by decide +kernel⟩
theorem tw_61 : Cond.code yX1_init cX1_init 2 none ∈ pm_T := pm_in (List.mem_append_right _ (List.mem_of_getElem? (i := 61) (by decide +kernel))) rfl
theorem tw_5 : Cond.initialized RX1 ∈ pm_T := pm_in (List.mem_append_right _ (List.mem_of_getElem? (i := 5) (by decide +kernel))) rfl
theorem my_X1_init : pm_Y yX1_init cX1_init 2 none 0 := ⟨tw_61, tw_5, ⟨by decide, by decide⟩, by decide +kernel⟩
theorem tw_62 : Cond.methodLink RX1 3 objectInit ∈ pm_T := pm_in (List.mem_append_right _ (List.mem_of_getElem? (i := 62) (by decide +kernel))) rfl
theorem tw_22 : Cond.instanceMethod objectInit ∈ pm_T := pm_in (List.mem_append_right _ (List.mem_of_getElem? (i := 22) (by decide +kernel))) rfl
theorem tw_23 : Cond.code objectInit ⟨#[0xb1]⟩ 1 none ∈ pm_T := pm_in (List.mem_append_right _ (List.mem_of_getElem? (i := 23) (by decide +kernel))) rfl
theorem oi_X1_3 : Cond.methodLink RX1 3 objectInit ∈ pm_T ∧ Cond.instanceMethod objectInit ∈ pm_T ∧ Cond.code objectInit ⟨#[0xb1]⟩ 1 none ∈ pm_T := ⟨tw_62, tw_22, tw_23⟩
theorem tw_63 : Cond.fieldLink RX1 9 (TX1 0).1 (TX1 0).2.1 (TX1 0).2.2.1 ∈ pm_T := pm_in (List.mem_append_right _ (List.mem_of_getElem? (i := 63) (by decide +kernel))) rfl
theorem fp_X1_9 : pm_FP RX1 9 0 0 true (.array .int) := ⟨RX1, TX1, 2, tyX1, in_X1, rfl, by decide, tw_63, tyX1_ok, nmX1, rfl, by decide +kernel, fun _ => rfl⟩
theorem tw_64 : Cond.fieldLink RX1 15 (TX1 1).1 (TX1 1).2.1 (TX1 1).2.2.1 ∈ pm_T := pm_in (List.mem_append_right _ (List.mem_of_getElem? (i := 64) (by decide +kernel))) rfl
theorem fp_X1_15 : pm_FP RX1 15 0 1 true (.array .int) := ⟨RX1, TX1, 2, tyX1, in_X1, rfl, by decide, tw_64, tyX1_ok, nmX1, rfl, by decide +kernel, fun _ => rfl⟩
theorem fl_X1_9 : pm_FL RX1 9 0 0 := ⟨RX1, TX1, 2, in_X1, rfl, by decide, Or.inl tw_63⟩
theorem fl_X1_15 : pm_FL RX1 15 0 1 := ⟨RX1, TX1, 2, in_X1, rfl, by decide, Or.inl tw_64⟩
theorem tw_656 : Cond.code yX1_copyFrom cX1_copyFrom 2 none ∈ pm_T := pm_in (List.mem_append_right _ (List.mem_of_getElem? (i := 656) (by decide +kernel))) rfl
theorem my_X1_copyFrom : pm_Y yX1_copyFrom cX1_copyFrom 2 none 1 := ⟨tw_656, tw_5, ⟨by decide, by decide⟩, by decide +kernel⟩
theorem tw_657 : Cond.methodLink RX1 18 arraycopyName ∈ pm_T := pm_in (List.mem_append_right _ (List.mem_of_getElem? (i := 657) (by decide +kernel))) rfl
theorem tw_338 : Cond.native arraycopyName ∈ pm_T := pm_in (List.mem_append_right _ (List.mem_of_getElem? (i := 338) (by decide +kernel))) rfl
theorem tw_337 : Cond.static arraycopyName ∈ pm_T := pm_in (List.mem_append_right _ (List.mem_of_getElem? (i := 337) (by decide +kernel))) rfl
theorem tw_12 : Cond.initialized "java/lang/System" ∈ pm_T := pm_in (List.mem_append_right _ (List.mem_of_getElem? (i := 12) (by decide +kernel))) rfl
theorem ac_X1_18 : Cond.methodLink RX1 18 arraycopyName ∈ pm_T ∧ Cond.native arraycopyName ∈ pm_T ∧ Cond.static arraycopyName ∈ pm_T ∧ Cond.initialized "java/lang/System" ∈ pm_T := ⟨tw_657, tw_338, tw_337, tw_12⟩
theorem tw_269 : Cond.code yX1_isRow cX1_isRow 4 (some .boolean) ∈ pm_T := pm_in (List.mem_append_right _ (List.mem_of_getElem? (i := 269) (by decide +kernel))) rfl
theorem my_X1_isRow : pm_Y yX1_isRow cX1_isRow 4 (some .boolean) 1 := ⟨tw_269, tw_5, ⟨by decide, by decide⟩, by decide +kernel⟩
theorem tw_273 : Cond.code yX1_rowOf cX1_rowOf 3 (some .int) ∈ pm_T := pm_in (List.mem_append_right _ (List.mem_of_getElem? (i := 273) (by decide +kernel))) rfl
theorem my_X1_rowOf : pm_Y yX1_rowOf cX1_rowOf 3 (some .int) 2 := ⟨tw_273, tw_5, ⟨by decide, by decide⟩, by decide +kernel⟩
theorem tw_274 : Cond.methodLinkNest RX1 24 yX9_isOne "PaleMoor" ∈ pm_T := pm_in (List.mem_append_right _ (List.mem_of_getElem? (i := 274) (by decide +kernel))) rfl
theorem tw_262 : Cond.static yX9_isOne ∈ pm_T := pm_in (List.mem_append_right _ (List.mem_of_getElem? (i := 262) (by decide +kernel))) rfl
theorem sl_X1_24 : pm_LS RX1 24 yX9_isOne := ⟨Or.inr ⟨_, tw_274⟩, tw_262⟩
theorem tw_278 : Cond.code yX1_setRow cX1_setRow 6 none ∈ pm_T := pm_in (List.mem_append_right _ (List.mem_of_getElem? (i := 278) (by decide +kernel))) rfl
theorem my_X1_setRow : pm_Y yX1_setRow cX1_setRow 6 none 3 := ⟨tw_278, tw_5, ⟨by decide, by decide⟩, by decide +kernel⟩
theorem tw_279 : Cond.methodLink RX1 28 yX1_isRow ∈ pm_T := pm_in (List.mem_append_right _ (List.mem_of_getElem? (i := 279) (by decide +kernel))) rfl
theorem tw_268 : Cond.static yX1_isRow ∈ pm_T := pm_in (List.mem_append_right _ (List.mem_of_getElem? (i := 268) (by decide +kernel))) rfl
theorem sl_X1_28 : pm_LS RX1 28 yX1_isRow := ⟨Or.inl tw_279, tw_268⟩
theorem tw_280 : Cond.methodLink RX1 32 yX1_setRank ∈ pm_T := pm_in (List.mem_append_right _ (List.mem_of_getElem? (i := 280) (by decide +kernel))) rfl
theorem tw_282 : Cond.instanceMethod yX1_setRank ∈ pm_T := pm_in (List.mem_append_right _ (List.mem_of_getElem? (i := 282) (by decide +kernel))) rfl
theorem ts_1 : Cond.selects RX1 yX1_setRank yX1_setRank ∈ pm_T := pm_in (List.mem_append_left _ (List.mem_of_getElem? (i := 1) (by decide +kernel))) rfl
theorem vl_X1_32 : pm_LV RX1 32 yX1_setRank := ⟨tw_280, tw_282, ts_1⟩
theorem tw_283 : Cond.code yX1_setRank cX1_setRank 5 none ∈ pm_T := pm_in (List.mem_append_right _ (List.mem_of_getElem? (i := 283) (by decide +kernel))) rfl
theorem my_X1_setRank : pm_Y yX1_setRank cX1_setRank 5 none 4 := ⟨tw_283, tw_5, ⟨by decide, by decide⟩, by decide +kernel⟩
theorem tw_532 : Cond.code yX1_rankOf cX1_rankOf 4 (some .int) ∈ pm_T := pm_in (List.mem_append_right _ (List.mem_of_getElem? (i := 532) (by decide +kernel))) rfl
theorem my_X1_rankOf : pm_Y yX1_rankOf cX1_rankOf 4 (some .int) 3 := ⟨tw_532, tw_5, ⟨by decide, by decide⟩, by decide +kernel⟩
theorem tw_535 : Cond.code yX1_partnerIn cX1_partnerIn 4 (some .int) ∈ pm_T := pm_in (List.mem_append_right _ (List.mem_of_getElem? (i := 535) (by decide +kernel))) rfl
theorem my_X1_partnerIn : pm_Y yX1_partnerIn cX1_partnerIn 4 (some .int) 3 := ⟨tw_535, tw_5, ⟨by decide, by decide⟩, by decide +kernel⟩
theorem tw_522 : Cond.methodLink RX1 36 yX1_chosenBy ∈ pm_T := pm_in (List.mem_append_right _ (List.mem_of_getElem? (i := 522) (by decide +kernel))) rfl
theorem tw_523 : Cond.static yX1_chosenBy ∈ pm_T := pm_in (List.mem_append_right _ (List.mem_of_getElem? (i := 523) (by decide +kernel))) rfl
theorem sl_X1_36 : pm_LS RX1 36 yX1_chosenBy := ⟨Or.inl tw_522, tw_523⟩
theorem tw_524 : Cond.code yX1_chosenBy cX1_chosenBy 2 (some .int) ∈ pm_T := pm_in (List.mem_append_right _ (List.mem_of_getElem? (i := 524) (by decide +kernel))) rfl
theorem my_X1_chosenBy : pm_Y yX1_chosenBy cX1_chosenBy 2 (some .int) 2 := ⟨tw_524, tw_5, ⟨by decide, by decide⟩, by decide +kernel⟩
theorem tw_514 : Cond.code yX1_countSteady cX1_countSteady 3 (some .int) ∈ pm_T := pm_in (List.mem_append_right _ (List.mem_of_getElem? (i := 514) (by decide +kernel))) rfl
theorem my_X1_countSteady : pm_Y yX1_countSteady cX1_countSteady 3 (some .int) 0 := ⟨tw_514, tw_5, ⟨by decide, by decide⟩, by decide +kernel⟩
theorem tw_515 : Cond.methodLink RX1 40 yX1_isSteady ∈ pm_T := pm_in (List.mem_append_right _ (List.mem_of_getElem? (i := 515) (by decide +kernel))) rfl
theorem tw_517 : Cond.instanceMethod yX1_isSteady ∈ pm_T := pm_in (List.mem_append_right _ (List.mem_of_getElem? (i := 517) (by decide +kernel))) rfl
theorem ts_16 : Cond.selects RX1 yX1_isSteady yX1_isSteady ∈ pm_T := pm_in (List.mem_append_left _ (List.mem_of_getElem? (i := 16) (by decide +kernel))) rfl
theorem vl_X1_40 : pm_LV RX1 40 yX1_isSteady := ⟨tw_515, tw_517, ts_16⟩
theorem tw_543 : Cond.code yX1_bestSteady cX1_bestSteady 5 (some .int) ∈ pm_T := pm_in (List.mem_append_right _ (List.mem_of_getElem? (i := 543) (by decide +kernel))) rfl
theorem my_X1_bestSteady : pm_Y yX1_bestSteady cX1_bestSteady 5 (some .int) 1 := ⟨tw_543, tw_5, ⟨by decide, by decide⟩, by decide +kernel⟩
theorem tw_544 : Cond.methodLink RX1 43 yX1_sumOfRanks ∈ pm_T := pm_in (List.mem_append_right _ (List.mem_of_getElem? (i := 544) (by decide +kernel))) rfl
theorem tw_546 : Cond.instanceMethod yX1_sumOfRanks ∈ pm_T := pm_in (List.mem_append_right _ (List.mem_of_getElem? (i := 546) (by decide +kernel))) rfl
theorem ts_19 : Cond.selects RX1 yX1_sumOfRanks yX1_sumOfRanks ∈ pm_T := pm_in (List.mem_append_left _ (List.mem_of_getElem? (i := 19) (by decide +kernel))) rfl
theorem vl_X1_43 : pm_LV RX1 43 yX1_sumOfRanks := ⟨tw_544, tw_546, ts_19⟩
theorem tw_547 : Cond.code yX1_sumOfRanks cX1_sumOfRanks 5 (some .int) ∈ pm_T := pm_in (List.mem_append_right _ (List.mem_of_getElem? (i := 547) (by decide +kernel))) rfl
theorem my_X1_sumOfRanks : pm_Y yX1_sumOfRanks cX1_sumOfRanks 5 (some .int) 2 := ⟨tw_547, tw_5, ⟨by decide, by decide⟩, by decide +kernel⟩
theorem tw_533 : Cond.methodLink RX1 46 yX1_partnerIn ∈ pm_T := pm_in (List.mem_append_right _ (List.mem_of_getElem? (i := 533) (by decide +kernel))) rfl
theorem tw_534 : Cond.static yX1_partnerIn ∈ pm_T := pm_in (List.mem_append_right _ (List.mem_of_getElem? (i := 534) (by decide +kernel))) rfl
theorem sl_X1_46 : pm_LS RX1 46 yX1_partnerIn := ⟨Or.inl tw_533, tw_534⟩
theorem tw_529 : Cond.methodLink RX1 50 yX1_rankOf ∈ pm_T := pm_in (List.mem_append_right _ (List.mem_of_getElem? (i := 529) (by decide +kernel))) rfl
theorem tw_531 : Cond.instanceMethod yX1_rankOf ∈ pm_T := pm_in (List.mem_append_right _ (List.mem_of_getElem? (i := 531) (by decide +kernel))) rfl
theorem ts_18 : Cond.selects RX1 yX1_rankOf yX1_rankOf ∈ pm_T := pm_in (List.mem_append_left _ (List.mem_of_getElem? (i := 18) (by decide +kernel))) rfl
theorem vl_X1_50 : pm_LV RX1 50 yX1_rankOf := ⟨tw_529, tw_531, ts_18⟩
theorem tw_518 : Cond.code yX1_isSteady cX1_isSteady 4 (some .boolean) ∈ pm_T := pm_in (List.mem_append_right _ (List.mem_of_getElem? (i := 518) (by decide +kernel))) rfl
theorem my_X1_isSteady : pm_Y yX1_isSteady cX1_isSteady 4 (some .boolean) 1 := ⟨tw_518, tw_5, ⟨by decide, by decide⟩, by decide +kernel⟩
theorem tw_519 : Cond.methodLink RX1 53 yX1_hasEachOnce ∈ pm_T := pm_in (List.mem_append_right _ (List.mem_of_getElem? (i := 519) (by decide +kernel))) rfl
theorem tw_520 : Cond.static yX1_hasEachOnce ∈ pm_T := pm_in (List.mem_append_right _ (List.mem_of_getElem? (i := 520) (by decide +kernel))) rfl
theorem sl_X1_53 : pm_LS RX1 53 yX1_hasEachOnce := ⟨Or.inl tw_519, tw_520⟩
theorem tw_525 : Cond.methodLink RX1 56 yX1_prefers ∈ pm_T := pm_in (List.mem_append_right _ (List.mem_of_getElem? (i := 525) (by decide +kernel))) rfl
theorem tw_527 : Cond.instanceMethod yX1_prefers ∈ pm_T := pm_in (List.mem_append_right _ (List.mem_of_getElem? (i := 527) (by decide +kernel))) rfl
theorem ts_17 : Cond.selects RX1 yX1_prefers yX1_prefers ∈ pm_T := pm_in (List.mem_append_left _ (List.mem_of_getElem? (i := 17) (by decide +kernel))) rfl
theorem vl_X1_56 : pm_LV RX1 56 yX1_prefers := ⟨tw_525, tw_527, ts_17⟩
theorem tw_521 : Cond.code yX1_hasEachOnce cX1_hasEachOnce 3 (some .boolean) ∈ pm_T := pm_in (List.mem_append_right _ (List.mem_of_getElem? (i := 521) (by decide +kernel))) rfl
theorem my_X1_hasEachOnce : pm_Y yX1_hasEachOnce cX1_hasEachOnce 3 (some .boolean) 1 := ⟨tw_521, tw_5, ⟨by decide, by decide⟩, by decide +kernel⟩
theorem tw_528 : Cond.code yX1_prefers cX1_prefers 5 (some .boolean) ∈ pm_T := pm_in (List.mem_append_right _ (List.mem_of_getElem? (i := 528) (by decide +kernel))) rfl
theorem my_X1_prefers : pm_Y yX1_prefers cX1_prefers 5 (some .boolean) 4 := ⟨tw_528, tw_5, ⟨by decide, by decide⟩, by decide +kernel⟩
theorem tw_34 : Cond.code yX2_init cX2_init 2 none ∈ pm_T := pm_in (List.mem_append_right _ (List.mem_of_getElem? (i := 34) (by decide +kernel))) rfl
theorem tw_3 : Cond.initialized RX2 ∈ pm_T := pm_in (List.mem_append_right _ (List.mem_of_getElem? (i := 3) (by decide +kernel))) rfl
theorem my_X2_init : pm_Y yX2_init cX2_init 2 none 0 := ⟨tw_34, tw_3, ⟨by decide, by decide⟩, by decide +kernel⟩
theorem tw_35 : Cond.methodLink RX2 3 objectInit ∈ pm_T := pm_in (List.mem_append_right _ (List.mem_of_getElem? (i := 35) (by decide +kernel))) rfl
theorem oi_X2_3 : Cond.methodLink RX2 3 objectInit ∈ pm_T ∧ Cond.instanceMethod objectInit ∈ pm_T ∧ Cond.code objectInit ⟨#[0xb1]⟩ 1 none ∈ pm_T := ⟨tw_35, tw_22, tw_23⟩
theorem tw_39 : Cond.fieldLink RX2 9 (TX2 0).1 (TX2 0).2.1 (TX2 0).2.2.1 ∈ pm_T := pm_in (List.mem_append_right _ (List.mem_of_getElem? (i := 39) (by decide +kernel))) rfl
theorem fp_X2_9 : pm_FP RX2 9 1 0 true (.array .int) := ⟨RX2, TX2, 5, tyX2, in_X2, rfl, by decide, tw_39, tyX2_ok, nmX2, rfl, by decide +kernel, fun _ => rfl⟩
theorem tw_40 : Cond.fieldLink RX2 15 (TX2 1).1 (TX2 1).2.1 (TX2 1).2.2.1 ∈ pm_T := pm_in (List.mem_append_right _ (List.mem_of_getElem? (i := 40) (by decide +kernel))) rfl
theorem fp_X2_15 : pm_FP RX2 15 1 1 true (.array .int) := ⟨RX2, TX2, 5, tyX2, in_X2, rfl, by decide, tw_40, tyX2_ok, nmX2, rfl, by decide +kernel, fun _ => rfl⟩
theorem tw_41 : Cond.fieldLink RX2 18 (TX2 2).1 (TX2 2).2.1 (TX2 2).2.2.1 ∈ pm_T := pm_in (List.mem_append_right _ (List.mem_of_getElem? (i := 41) (by decide +kernel))) rfl
theorem fp_X2_18 : pm_FP RX2 18 1 2 true (.array .int) := ⟨RX2, TX2, 5, tyX2, in_X2, rfl, by decide, tw_41, tyX2_ok, nmX2, rfl, by decide +kernel, fun _ => rfl⟩
theorem tw_42 : Cond.fieldLink RX2 21 (TX2 3).1 (TX2 3).2.1 (TX2 3).2.2.1 ∈ pm_T := pm_in (List.mem_append_right _ (List.mem_of_getElem? (i := 42) (by decide +kernel))) rfl
theorem fp_X2_21 : pm_FP RX2 21 1 3 true (.array .int) := ⟨RX2, TX2, 5, tyX2, in_X2, rfl, by decide, tw_42, tyX2_ok, nmX2, rfl, by decide +kernel, fun _ => rfl⟩
theorem tw_43 : Cond.fieldLink RX2 24 (TX2 4).1 (TX2 4).2.1 (TX2 4).2.2.1 ∈ pm_T := pm_in (List.mem_append_right _ (List.mem_of_getElem? (i := 43) (by decide +kernel))) rfl
theorem fp_X2_24 : pm_FP RX2 24 1 4 false .int := ⟨RX2, TX2, 5, tyX2, in_X2, rfl, by decide, tw_43, tyX2_ok, nmX2, rfl, by decide +kernel, fun h => by cases h⟩
theorem fl_X2_9 : pm_FL RX2 9 1 0 := ⟨RX2, TX2, 5, in_X2, rfl, by decide, Or.inl tw_39⟩
theorem tw_36 : Cond.methodLink RX2 28 yJ7_fill_53178 ∈ pm_T := pm_in (List.mem_append_right _ (List.mem_of_getElem? (i := 36) (by decide +kernel))) rfl
theorem tw_37 : Cond.static yJ7_fill_53178 ∈ pm_T := pm_in (List.mem_append_right _ (List.mem_of_getElem? (i := 37) (by decide +kernel))) rfl
theorem sl_X2_28 : pm_LS RX2 28 yJ7_fill_53178 := ⟨Or.inl tw_36, tw_37⟩
theorem fl_X2_21 : pm_FL RX2 21 1 3 := ⟨RX2, TX2, 5, in_X2, rfl, by decide, Or.inl tw_42⟩
theorem fl_X2_18 : pm_FL RX2 18 1 2 := ⟨RX2, TX2, 5, in_X2, rfl, by decide, Or.inl tw_41⟩
theorem tw_335 : Cond.code yX2_copyFrom cX2_copyFrom 2 none ∈ pm_T := pm_in (List.mem_append_right _ (List.mem_of_getElem? (i := 335) (by decide +kernel))) rfl
theorem my_X2_copyFrom : pm_Y yX2_copyFrom cX2_copyFrom 2 none 1 := ⟨tw_335, tw_3, ⟨by decide, by decide⟩, by decide +kernel⟩
theorem tw_336 : Cond.methodLink RX2 34 arraycopyName ∈ pm_T := pm_in (List.mem_append_right _ (List.mem_of_getElem? (i := 336) (by decide +kernel))) rfl
theorem ac_X2_34 : Cond.methodLink RX2 34 arraycopyName ∈ pm_T ∧ Cond.native arraycopyName ∈ pm_T ∧ Cond.static arraycopyName ∈ pm_T ∧ Cond.initialized "java/lang/System" ∈ pm_T := ⟨tw_336, tw_338, tw_337, tw_12⟩
theorem fl_X2_15 : pm_FL RX2 15 1 1 := ⟨RX2, TX2, 5, in_X2, rfl, by decide, Or.inl tw_40⟩
theorem fl_X2_24 : pm_FL RX2 24 1 4 := ⟨RX2, TX2, 5, in_X2, rfl, by decide, Or.inl tw_43⟩
theorem tw_380 : Cond.code yX2_strengthBetween cX2_strengthBetween 3 (some .int) ∈ pm_T := pm_in (List.mem_append_right _ (List.mem_of_getElem? (i := 380) (by decide +kernel))) rfl
theorem my_X2_strengthBetween : pm_Y yX2_strengthBetween cX2_strengthBetween 3 (some .int) 2 := ⟨tw_380, tw_3, ⟨by decide, by decide⟩, by decide +kernel⟩
theorem tw_240 : Cond.methodLinkNest RX2 40 yX9_isFarm "PaleMoor" ∈ pm_T := pm_in (List.mem_append_right _ (List.mem_of_getElem? (i := 240) (by decide +kernel))) rfl
theorem tw_217 : Cond.static yX9_isFarm ∈ pm_T := pm_in (List.mem_append_right _ (List.mem_of_getElem? (i := 217) (by decide +kernel))) rfl
theorem sl_X2_40 : pm_LS RX2 40 yX9_isFarm := ⟨Or.inr ⟨_, tw_240⟩, tw_217⟩
theorem tw_222 : Cond.code yX2_setStrength cX2_setStrength 4 none ∈ pm_T := pm_in (List.mem_append_right _ (List.mem_of_getElem? (i := 222) (by decide +kernel))) rfl
theorem my_X2_setStrength : pm_Y yX2_setStrength cX2_setStrength 4 none 3 := ⟨tw_222, tw_3, ⟨by decide, by decide⟩, by decide +kernel⟩
theorem tw_223 : Cond.methodLinkNest RX2 44 yX9_areTwoFarms "PaleMoor" ∈ pm_T := pm_in (List.mem_append_right _ (List.mem_of_getElem? (i := 223) (by decide +kernel))) rfl
theorem tw_214 : Cond.static yX9_areTwoFarms ∈ pm_T := pm_in (List.mem_append_right _ (List.mem_of_getElem? (i := 214) (by decide +kernel))) rfl
theorem sl_X2_44 : pm_LS RX2 44 yX9_areTwoFarms := ⟨Or.inr ⟨_, tw_223⟩, tw_214⟩
theorem tw_239 : Cond.code yX2_milesBetween cX2_milesBetween 3 (some .int) ∈ pm_T := pm_in (List.mem_append_right _ (List.mem_of_getElem? (i := 239) (by decide +kernel))) rfl
theorem my_X2_milesBetween : pm_Y yX2_milesBetween cX2_milesBetween 3 (some .int) 2 := ⟨tw_239, tw_3, ⟨by decide, by decide⟩, by decide +kernel⟩
theorem tw_244 : Cond.code yX2_setMiles cX2_setMiles 4 none ∈ pm_T := pm_in (List.mem_append_right _ (List.mem_of_getElem? (i := 244) (by decide +kernel))) rfl
theorem my_X2_setMiles : pm_Y yX2_setMiles cX2_setMiles 4 none 3 := ⟨tw_244, tw_3, ⟨by decide, by decide⟩, by decide +kernel⟩
theorem tw_252 : Cond.code yX2_placeOf cX2_placeOf 2 (some .int) ∈ pm_T := pm_in (List.mem_append_right _ (List.mem_of_getElem? (i := 252) (by decide +kernel))) rfl
theorem my_X2_placeOf : pm_Y yX2_placeOf cX2_placeOf 2 (some .int) 1 := ⟨tw_252, tw_3, ⟨by decide, by decide⟩, by decide +kernel⟩
theorem tw_416 : Cond.code yX2_cowsOf cX2_cowsOf 2 (some .int) ∈ pm_T := pm_in (List.mem_append_right _ (List.mem_of_getElem? (i := 416) (by decide +kernel))) rfl
theorem my_X2_cowsOf : pm_Y yX2_cowsOf cX2_cowsOf 2 (some .int) 1 := ⟨tw_416, tw_3, ⟨by decide, by decide⟩, by decide +kernel⟩
theorem tw_256 : Cond.code yX2_settle cX2_settle 4 none ∈ pm_T := pm_in (List.mem_append_right _ (List.mem_of_getElem? (i := 256) (by decide +kernel))) rfl
theorem my_X2_settle : pm_Y yX2_settle cX2_settle 4 none 3 := ⟨tw_256, tw_3, ⟨by decide, by decide⟩, by decide +kernel⟩
theorem tw_227 : Cond.code yX2_countPales cX2_countPales 1 (some .int) ∈ pm_T := pm_in (List.mem_append_right _ (List.mem_of_getElem? (i := 227) (by decide +kernel))) rfl
theorem my_X2_countPales : pm_Y yX2_countPales cX2_countPales 1 (some .int) 0 := ⟨tw_227, tw_3, ⟨by decide, by decide⟩, by decide +kernel⟩
theorem tw_228 : Cond.methodLink RX2 48 yX2_countStrengths ∈ pm_T := pm_in (List.mem_append_right _ (List.mem_of_getElem? (i := 228) (by decide +kernel))) rfl
theorem tw_230 : Cond.instanceMethod yX2_countStrengths ∈ pm_T := pm_in (List.mem_append_right _ (List.mem_of_getElem? (i := 230) (by decide +kernel))) rfl
theorem ts_0 : Cond.selects RX2 yX2_countStrengths yX2_countStrengths ∈ pm_T := pm_in (List.mem_append_left _ (List.mem_of_getElem? (i := 0) (by decide +kernel))) rfl
theorem vl_X2_48 : pm_LV RX2 48 yX2_countStrengths := ⟨tw_228, tw_230, ts_0⟩
theorem tw_459 : Cond.code yX2_countGaps cX2_countGaps 1 (some .int) ∈ pm_T := pm_in (List.mem_append_right _ (List.mem_of_getElem? (i := 459) (by decide +kernel))) rfl
theorem my_X2_countGaps : pm_Y yX2_countGaps cX2_countGaps 1 (some .int) 0 := ⟨tw_459, tw_3, ⟨by decide, by decide⟩, by decide +kernel⟩
theorem tw_231 : Cond.code yX2_countStrengths cX2_countStrengths 7 (some .int) ∈ pm_T := pm_in (List.mem_append_right _ (List.mem_of_getElem? (i := 231) (by decide +kernel))) rfl
theorem my_X2_countStrengths : pm_Y yX2_countStrengths cX2_countStrengths 7 (some .int) 2 := ⟨tw_231, tw_3, ⟨by decide, by decide⟩, by decide +kernel⟩
theorem tw_463 : Cond.code yX2_awayBits cX2_awayBits 3 (some .int) ∈ pm_T := pm_in (List.mem_append_right _ (List.mem_of_getElem? (i := 463) (by decide +kernel))) rfl
theorem my_X2_awayBits : pm_Y yX2_awayBits cX2_awayBits 3 (some .int) 0 := ⟨tw_463, tw_3, ⟨by decide, by decide⟩, by decide +kernel⟩
theorem tw_492 : Cond.code yX2_toBeMended cX2_toBeMended 5 (some .int) ∈ pm_T := pm_in (List.mem_append_right _ (List.mem_of_getElem? (i := 492) (by decide +kernel))) rfl
theorem my_X2_toBeMended : pm_Y yX2_toBeMended cX2_toBeMended 5 (some .int) 1 := ⟨tw_492, tw_3, ⟨by decide, by decide⟩, by decide +kernel⟩
theorem tw_377 : Cond.methodLink RX2 52 yX2_strengthBetween ∈ pm_T := pm_in (List.mem_append_right _ (List.mem_of_getElem? (i := 377) (by decide +kernel))) rfl
theorem tw_378 : Cond.instanceMethod yX2_strengthBetween ∈ pm_T := pm_in (List.mem_append_right _ (List.mem_of_getElem? (i := 378) (by decide +kernel))) rfl
theorem tw_379 : Cond.selects RX2 yX2_strengthBetween yX2_strengthBetween ∈ pm_T := pm_in (List.mem_append_right _ (List.mem_of_getElem? (i := 379) (by decide +kernel))) rfl
theorem vl_X2_52 : pm_LV RX2 52 yX2_strengthBetween := ⟨tw_377, tw_378, tw_379⟩
theorem tw_366 : Cond.code yX2_whyNot cX2_whyNot 4 (some .int) ∈ pm_T := pm_in (List.mem_append_right _ (List.mem_of_getElem? (i := 366) (by decide +kernel))) rfl
theorem my_X2_whyNot : pm_Y yX2_whyNot cX2_whyNot 4 (some .int) 3 := ⟨tw_366, tw_3, ⟨by decide, by decide⟩, by decide +kernel⟩
theorem tw_367 : Cond.methodLink RX2 55 yX2_whyNoWalk ∈ pm_T := pm_in (List.mem_append_right _ (List.mem_of_getElem? (i := 367) (by decide +kernel))) rfl
theorem tw_369 : Cond.instanceMethod yX2_whyNoWalk ∈ pm_T := pm_in (List.mem_append_right _ (List.mem_of_getElem? (i := 369) (by decide +kernel))) rfl
theorem ts_5 : Cond.selects RX2 yX2_whyNoWalk yX2_whyNoWalk ∈ pm_T := pm_in (List.mem_append_left _ (List.mem_of_getElem? (i := 5) (by decide +kernel))) rfl
theorem vl_X2_55 : pm_LV RX2 55 yX2_whyNoWalk := ⟨tw_367, tw_369, ts_5⟩
theorem tw_373 : Cond.methodLink RX2 58 yX2_whyNoMending ∈ pm_T := pm_in (List.mem_append_right _ (List.mem_of_getElem? (i := 373) (by decide +kernel))) rfl
theorem tw_375 : Cond.instanceMethod yX2_whyNoMending ∈ pm_T := pm_in (List.mem_append_right _ (List.mem_of_getElem? (i := 375) (by decide +kernel))) rfl
theorem ts_6 : Cond.selects RX2 yX2_whyNoMending yX2_whyNoMending ∈ pm_T := pm_in (List.mem_append_left _ (List.mem_of_getElem? (i := 6) (by decide +kernel))) rfl
theorem vl_X2_58 : pm_LV RX2 58 yX2_whyNoMending := ⟨tw_373, tw_375, ts_6⟩
theorem tw_384 : Cond.methodLink RX2 62 yX2_whyNoBreaking ∈ pm_T := pm_in (List.mem_append_right _ (List.mem_of_getElem? (i := 384) (by decide +kernel))) rfl
theorem tw_386 : Cond.instanceMethod yX2_whyNoBreaking ∈ pm_T := pm_in (List.mem_append_right _ (List.mem_of_getElem? (i := 386) (by decide +kernel))) rfl
theorem ts_7 : Cond.selects RX2 yX2_whyNoBreaking yX2_whyNoBreaking ∈ pm_T := pm_in (List.mem_append_left _ (List.mem_of_getElem? (i := 7) (by decide +kernel))) rfl
theorem vl_X2_62 : pm_LV RX2 62 yX2_whyNoBreaking := ⟨tw_384, tw_386, ts_7⟩
theorem tw_388 : Cond.methodLink RX2 65 yX2_countPales ∈ pm_T := pm_in (List.mem_append_right _ (List.mem_of_getElem? (i := 388) (by decide +kernel))) rfl
theorem tw_225 : Cond.instanceMethod yX2_countPales ∈ pm_T := pm_in (List.mem_append_right _ (List.mem_of_getElem? (i := 225) (by decide +kernel))) rfl
theorem tw_226 : Cond.selects RX2 yX2_countPales yX2_countPales ∈ pm_T := pm_in (List.mem_append_right _ (List.mem_of_getElem? (i := 226) (by decide +kernel))) rfl
theorem vl_X2_65 : pm_LV RX2 65 yX2_countPales := ⟨tw_388, tw_225, tw_226⟩
theorem tw_370 : Cond.code yX2_whyNoWalk cX2_whyNoWalk 3 (some .int) ∈ pm_T := pm_in (List.mem_append_right _ (List.mem_of_getElem? (i := 370) (by decide +kernel))) rfl
theorem my_X2_whyNoWalk : pm_Y yX2_whyNoWalk cX2_whyNoWalk 3 (some .int) 2 := ⟨tw_370, tw_3, ⟨by decide, by decide⟩, by decide +kernel⟩
theorem tw_371 : Cond.methodLink RX2 69 yX2_placeOf ∈ pm_T := pm_in (List.mem_append_right _ (List.mem_of_getElem? (i := 371) (by decide +kernel))) rfl
theorem tw_250 : Cond.instanceMethod yX2_placeOf ∈ pm_T := pm_in (List.mem_append_right _ (List.mem_of_getElem? (i := 250) (by decide +kernel))) rfl
theorem tw_251 : Cond.selects RX2 yX2_placeOf yX2_placeOf ∈ pm_T := pm_in (List.mem_append_right _ (List.mem_of_getElem? (i := 251) (by decide +kernel))) rfl
theorem vl_X2_69 : pm_LV RX2 69 yX2_placeOf := ⟨tw_371, tw_250, tw_251⟩
theorem tw_372 : Cond.methodLink RX2 72 yX2_milesBetween ∈ pm_T := pm_in (List.mem_append_right _ (List.mem_of_getElem? (i := 372) (by decide +kernel))) rfl
theorem tw_237 : Cond.instanceMethod yX2_milesBetween ∈ pm_T := pm_in (List.mem_append_right _ (List.mem_of_getElem? (i := 237) (by decide +kernel))) rfl
theorem tw_238 : Cond.selects RX2 yX2_milesBetween yX2_milesBetween ∈ pm_T := pm_in (List.mem_append_right _ (List.mem_of_getElem? (i := 238) (by decide +kernel))) rfl
theorem vl_X2_72 : pm_LV RX2 72 yX2_milesBetween := ⟨tw_372, tw_237, tw_238⟩
theorem tw_376 : Cond.code yX2_whyNoMending cX2_whyNoMending 2 (some .int) ∈ pm_T := pm_in (List.mem_append_right _ (List.mem_of_getElem? (i := 376) (by decide +kernel))) rfl
theorem my_X2_whyNoMending : pm_Y yX2_whyNoMending cX2_whyNoMending 2 (some .int) 1 := ⟨tw_376, tw_3, ⟨by decide, by decide⟩, by decide +kernel⟩
theorem tw_381 : Cond.methodLink RX2 75 yX2_whyNotFrom ∈ pm_T := pm_in (List.mem_append_right _ (List.mem_of_getElem? (i := 381) (by decide +kernel))) rfl
theorem tw_382 : Cond.static yX2_whyNotFrom ∈ pm_T := pm_in (List.mem_append_right _ (List.mem_of_getElem? (i := 382) (by decide +kernel))) rfl
theorem sl_X2_75 : pm_LS RX2 75 yX2_whyNotFrom := ⟨Or.inl tw_381, tw_382⟩
theorem tw_387 : Cond.code yX2_whyNoBreaking cX2_whyNoBreaking 3 (some .int) ∈ pm_T := pm_in (List.mem_append_right _ (List.mem_of_getElem? (i := 387) (by decide +kernel))) rfl
theorem my_X2_whyNoBreaking : pm_Y yX2_whyNoBreaking cX2_whyNoBreaking 3 (some .int) 2 := ⟨tw_387, tw_3, ⟨by decide, by decide⟩, by decide +kernel⟩
theorem tw_383 : Cond.code yX2_whyNotFrom cX2_whyNotFrom 2 (some .int) ∈ pm_T := pm_in (List.mem_append_right _ (List.mem_of_getElem? (i := 383) (by decide +kernel))) rfl
theorem my_X2_whyNotFrom : pm_Y yX2_whyNotFrom cX2_whyNotFrom 2 (some .int) 2 := ⟨tw_383, tw_3, ⟨by decide, by decide⟩, by decide +kernel⟩
theorem tw_412 : Cond.code yX2_perform cX2_perform 4 none ∈ pm_T := pm_in (List.mem_append_right _ (List.mem_of_getElem? (i := 412) (by decide +kernel))) rfl
theorem my_X2_perform : pm_Y yX2_perform cX2_perform 4 none 3 := ⟨tw_412, tw_3, ⟨by decide, by decide⟩, by decide +kernel⟩
theorem tw_413 : Cond.methodLink RX2 78 yX2_cowsOf ∈ pm_T := pm_in (List.mem_append_right _ (List.mem_of_getElem? (i := 413) (by decide +kernel))) rfl
theorem tw_414 : Cond.instanceMethod yX2_cowsOf ∈ pm_T := pm_in (List.mem_append_right _ (List.mem_of_getElem? (i := 414) (by decide +kernel))) rfl
theorem tw_415 : Cond.selects RX2 yX2_cowsOf yX2_cowsOf ∈ pm_T := pm_in (List.mem_append_right _ (List.mem_of_getElem? (i := 415) (by decide +kernel))) rfl
theorem vl_X2_78 : pm_LV RX2 78 yX2_cowsOf := ⟨tw_413, tw_414, tw_415⟩
theorem tw_417 : Cond.methodLink RX2 81 yX2_settle ∈ pm_T := pm_in (List.mem_append_right _ (List.mem_of_getElem? (i := 417) (by decide +kernel))) rfl
theorem tw_254 : Cond.instanceMethod yX2_settle ∈ pm_T := pm_in (List.mem_append_right _ (List.mem_of_getElem? (i := 254) (by decide +kernel))) rfl
theorem tw_255 : Cond.selects RX2 yX2_settle yX2_settle ∈ pm_T := pm_in (List.mem_append_right _ (List.mem_of_getElem? (i := 255) (by decide +kernel))) rfl
theorem vl_X2_81 : pm_LV RX2 81 yX2_settle := ⟨tw_417, tw_254, tw_255⟩
theorem tw_418 : Cond.methodLink RX2 85 yX2_mendPale ∈ pm_T := pm_in (List.mem_append_right _ (List.mem_of_getElem? (i := 418) (by decide +kernel))) rfl
theorem tw_420 : Cond.instanceMethod yX2_mendPale ∈ pm_T := pm_in (List.mem_append_right _ (List.mem_of_getElem? (i := 420) (by decide +kernel))) rfl
theorem ts_10 : Cond.selects RX2 yX2_mendPale yX2_mendPale ∈ pm_T := pm_in (List.mem_append_left _ (List.mem_of_getElem? (i := 10) (by decide +kernel))) rfl
theorem vl_X2_85 : pm_LV RX2 85 yX2_mendPale := ⟨tw_418, tw_420, ts_10⟩
theorem tw_422 : Cond.methodLink RX2 89 yX2_setStrength ∈ pm_T := pm_in (List.mem_append_right _ (List.mem_of_getElem? (i := 422) (by decide +kernel))) rfl
theorem tw_220 : Cond.instanceMethod yX2_setStrength ∈ pm_T := pm_in (List.mem_append_right _ (List.mem_of_getElem? (i := 220) (by decide +kernel))) rfl
theorem tw_221 : Cond.selects RX2 yX2_setStrength yX2_setStrength ∈ pm_T := pm_in (List.mem_append_right _ (List.mem_of_getElem? (i := 221) (by decide +kernel))) rfl
theorem vl_X2_89 : pm_LV RX2 89 yX2_setStrength := ⟨tw_422, tw_220, tw_221⟩
theorem tw_423 : Cond.methodLink RX2 92 yX2_blow ∈ pm_T := pm_in (List.mem_append_right _ (List.mem_of_getElem? (i := 423) (by decide +kernel))) rfl
theorem tw_425 : Cond.instanceMethod yX2_blow ∈ pm_T := pm_in (List.mem_append_right _ (List.mem_of_getElem? (i := 425) (by decide +kernel))) rfl
theorem ts_11 : Cond.selects RX2 yX2_blow yX2_blow ∈ pm_T := pm_in (List.mem_append_left _ (List.mem_of_getElem? (i := 11) (by decide +kernel))) rfl
theorem vl_X2_92 : pm_LV RX2 92 yX2_blow := ⟨tw_423, tw_425, ts_11⟩
theorem tw_427 : Cond.methodLink RX2 96 yX2_passDay ∈ pm_T := pm_in (List.mem_append_right _ (List.mem_of_getElem? (i := 427) (by decide +kernel))) rfl
theorem tw_429 : Cond.instanceMethod yX2_passDay ∈ pm_T := pm_in (List.mem_append_right _ (List.mem_of_getElem? (i := 429) (by decide +kernel))) rfl
theorem ts_12 : Cond.selects RX2 yX2_passDay yX2_passDay ∈ pm_T := pm_in (List.mem_append_left _ (List.mem_of_getElem? (i := 12) (by decide +kernel))) rfl
theorem vl_X2_96 : pm_LV RX2 96 yX2_passDay := ⟨tw_427, tw_429, ts_12⟩
theorem tw_421 : Cond.code yX2_mendPale cX2_mendPale 3 none ∈ pm_T := pm_in (List.mem_append_right _ (List.mem_of_getElem? (i := 421) (by decide +kernel))) rfl
theorem my_X2_mendPale : pm_Y yX2_mendPale cX2_mendPale 3 none 2 := ⟨tw_421, tw_3, ⟨by decide, by decide⟩, by decide +kernel⟩
theorem tw_395 : Cond.methodLink RX2 99 yJ9_min_7cf53 ∈ pm_T := pm_in (List.mem_append_right _ (List.mem_of_getElem? (i := 395) (by decide +kernel))) rfl
theorem tw_396 : Cond.static yJ9_min_7cf53 ∈ pm_T := pm_in (List.mem_append_right _ (List.mem_of_getElem? (i := 396) (by decide +kernel))) rfl
theorem sl_X2_99 : pm_LS RX2 99 yJ9_min_7cf53 := ⟨Or.inl tw_395, tw_396⟩
theorem tw_426 : Cond.code yX2_blow cX2_blow 3 none ∈ pm_T := pm_in (List.mem_append_right _ (List.mem_of_getElem? (i := 426) (by decide +kernel))) rfl
theorem my_X2_blow : pm_Y yX2_blow cX2_blow 3 none 1 := ⟨tw_426, tw_3, ⟨by decide, by decide⟩, by decide +kernel⟩
theorem tw_398 : Cond.methodLink RX2 104 yJ9_max_7cf53 ∈ pm_T := pm_in (List.mem_append_right _ (List.mem_of_getElem? (i := 398) (by decide +kernel))) rfl
theorem tw_399 : Cond.static yJ9_max_7cf53 ∈ pm_T := pm_in (List.mem_append_right _ (List.mem_of_getElem? (i := 399) (by decide +kernel))) rfl
theorem sl_X2_104 : pm_LS RX2 104 yJ9_max_7cf53 := ⟨Or.inl tw_398, tw_399⟩
theorem tw_430 : Cond.code yX2_passDay cX2_passDay 4 none ∈ pm_T := pm_in (List.mem_append_right _ (List.mem_of_getElem? (i := 430) (by decide +kernel))) rfl
theorem my_X2_passDay : pm_Y yX2_passDay cX2_passDay 4 none 0 := ⟨tw_430, tw_3, ⟨by decide, by decide⟩, by decide +kernel⟩
theorem tw_431 : Cond.methodLink RX2 107 yJ6_compare_7cf53 ∈ pm_T := pm_in (List.mem_append_right _ (List.mem_of_getElem? (i := 431) (by decide +kernel))) rfl
theorem tw_432 : Cond.static yJ6_compare_7cf53 ∈ pm_T := pm_in (List.mem_append_right _ (List.mem_of_getElem? (i := 432) (by decide +kernel))) rfl
theorem sl_X2_107 : pm_LS RX2 107 yJ6_compare_7cf53 := ⟨Or.inl tw_431, tw_432⟩
theorem tw_394 : Cond.code yX2_gapMadeBy cX2_gapMadeBy 4 (some .int) ∈ pm_T := pm_in (List.mem_append_right _ (List.mem_of_getElem? (i := 394) (by decide +kernel))) rfl
theorem my_X2_gapMadeBy : pm_Y yX2_gapMadeBy cX2_gapMadeBy 4 (some .int) 3 := ⟨tw_394, tw_3, ⟨by decide, by decide⟩, by decide +kernel⟩
theorem tw_401 : Cond.methodLink RX2 112 yX2_gapMadeByWind ∈ pm_T := pm_in (List.mem_append_right _ (List.mem_of_getElem? (i := 401) (by decide +kernel))) rfl
theorem tw_403 : Cond.instanceMethod yX2_gapMadeByWind ∈ pm_T := pm_in (List.mem_append_right _ (List.mem_of_getElem? (i := 403) (by decide +kernel))) rfl
theorem ts_8 : Cond.selects RX2 yX2_gapMadeByWind yX2_gapMadeByWind ∈ pm_T := pm_in (List.mem_append_left _ (List.mem_of_getElem? (i := 8) (by decide +kernel))) rfl
theorem vl_X2_112 : pm_LV RX2 112 yX2_gapMadeByWind := ⟨tw_401, tw_403, ts_8⟩
theorem tw_404 : Cond.code yX2_gapMadeByWind cX2_gapMadeByWind 5 (some .int) ∈ pm_T := pm_in (List.mem_append_right _ (List.mem_of_getElem? (i := 404) (by decide +kernel))) rfl
theorem my_X2_gapMadeByWind : pm_Y yX2_gapMadeByWind cX2_gapMadeByWind 5 (some .int) 1 := ⟨tw_404, tw_3, ⟨by decide, by decide⟩, by decide +kernel⟩
theorem tw_631 : Cond.code yX2_drawActs cX2_drawActs 8 none ∈ pm_T := pm_in (List.mem_append_right _ (List.mem_of_getElem? (i := 631) (by decide +kernel))) rfl
theorem my_X2_drawActs : pm_Y yX2_drawActs cX2_drawActs 8 none 2 := ⟨tw_631, tw_3, ⟨by decide, by decide⟩, by decide +kernel⟩
theorem tw_632 : Cond.constant RX2 115 (65537) ∈ pm_T := pm_in (List.mem_append_right _ (List.mem_of_getElem? (i := 632) (by decide +kernel))) rfl
theorem kc_X2_115 : Cond.constant RX2 115 (65537) ∈ pm_T := tw_632
theorem tw_633 : Cond.methodLink RX2 116 yX2_drawnKind ∈ pm_T := pm_in (List.mem_append_right _ (List.mem_of_getElem? (i := 633) (by decide +kernel))) rfl
theorem tw_634 : Cond.static yX2_drawnKind ∈ pm_T := pm_in (List.mem_append_right _ (List.mem_of_getElem? (i := 634) (by decide +kernel))) rfl
theorem sl_X2_116 : pm_LS RX2 116 yX2_drawnKind := ⟨Or.inl tw_633, tw_634⟩
theorem tw_636 : Cond.methodLink RX2 119 yX2_whyNot ∈ pm_T := pm_in (List.mem_append_right _ (List.mem_of_getElem? (i := 636) (by decide +kernel))) rfl
theorem tw_364 : Cond.instanceMethod yX2_whyNot ∈ pm_T := pm_in (List.mem_append_right _ (List.mem_of_getElem? (i := 364) (by decide +kernel))) rfl
theorem tw_365 : Cond.selects RX2 yX2_whyNot yX2_whyNot ∈ pm_T := pm_in (List.mem_append_right _ (List.mem_of_getElem? (i := 365) (by decide +kernel))) rfl
theorem vl_X2_119 : pm_LV RX2 119 yX2_whyNot := ⟨tw_636, tw_364, tw_365⟩
theorem tw_637 : Cond.methodLink RX2 123 yX2_perform ∈ pm_T := pm_in (List.mem_append_right _ (List.mem_of_getElem? (i := 637) (by decide +kernel))) rfl
theorem tw_410 : Cond.instanceMethod yX2_perform ∈ pm_T := pm_in (List.mem_append_right _ (List.mem_of_getElem? (i := 410) (by decide +kernel))) rfl
theorem tw_411 : Cond.selects RX2 yX2_perform yX2_perform ∈ pm_T := pm_in (List.mem_append_right _ (List.mem_of_getElem? (i := 411) (by decide +kernel))) rfl
theorem vl_X2_123 : pm_LV RX2 123 yX2_perform := ⟨tw_637, tw_410, tw_411⟩
theorem tw_635 : Cond.code yX2_drawnKind cX2_drawnKind 1 (some .int) ∈ pm_T := pm_in (List.mem_append_right _ (List.mem_of_getElem? (i := 635) (by decide +kernel))) rfl
theorem my_X2_drawnKind : pm_Y yX2_drawnKind cX2_drawnKind 1 (some .int) 1 := ⟨tw_635, tw_3, ⟨by decide, by decide⟩, by decide +kernel⟩
theorem tw_118 : Cond.code yX3_init cX3_init 1 none ∈ pm_T := pm_in (List.mem_append_right _ (List.mem_of_getElem? (i := 118) (by decide +kernel))) rfl
theorem tw_7 : Cond.initialized RX3 ∈ pm_T := pm_in (List.mem_append_right _ (List.mem_of_getElem? (i := 7) (by decide +kernel))) rfl
theorem my_X3_init : pm_Y yX3_init cX3_init 1 none 0 := ⟨tw_118, tw_7, ⟨by decide, by decide⟩, by decide +kernel⟩
theorem tw_119 : Cond.methodLink RX3 3 objectInit ∈ pm_T := pm_in (List.mem_append_right _ (List.mem_of_getElem? (i := 119) (by decide +kernel))) rfl
theorem oi_X3_3 : Cond.methodLink RX3 3 objectInit ∈ pm_T ∧ Cond.instanceMethod objectInit ∈ pm_T ∧ Cond.code objectInit ⟨#[0xb1]⟩ 1 none ∈ pm_T := ⟨tw_119, tw_22, tw_23⟩
theorem tw_120 : Cond.fieldLink RX3 9 (TX3 0).1 (TX3 0).2.1 (TX3 0).2.2.1 ∈ pm_T := pm_in (List.mem_append_right _ (List.mem_of_getElem? (i := 120) (by decide +kernel))) rfl
theorem fp_X3_9 : pm_FP RX3 9 2 0 true (.array .int) := ⟨RX3, TX3, 2, tyX3, in_X3, rfl, by decide, tw_120, tyX3_ok, nmX3, rfl, by decide +kernel, fun _ => rfl⟩
theorem tw_121 : Cond.fieldLink RX3 15 (TX3 1).1 (TX3 1).2.1 (TX3 1).2.2.1 ∈ pm_T := pm_in (List.mem_append_right _ (List.mem_of_getElem? (i := 121) (by decide +kernel))) rfl
theorem fp_X3_15 : pm_FP RX3 15 2 1 false .int := ⟨RX3, TX3, 2, tyX3, in_X3, rfl, by decide, tw_121, tyX3_ok, nmX3, rfl, by decide +kernel, fun h => by cases h⟩
theorem tw_295 : Cond.code yX3_size cX3_size 1 (some .int) ∈ pm_T := pm_in (List.mem_append_right _ (List.mem_of_getElem? (i := 295) (by decide +kernel))) rfl
theorem my_X3_size : pm_Y yX3_size cX3_size 1 (some .int) 0 := ⟨tw_295, tw_7, ⟨by decide, by decide⟩, by decide +kernel⟩
theorem fl_X3_15 : pm_FL RX3 15 2 1 := ⟨RX3, TX3, 2, in_X3, rfl, by decide, Or.inl tw_121⟩
theorem tw_303 : Cond.code yX3_clear cX3_clear 1 none ∈ pm_T := pm_in (List.mem_append_right _ (List.mem_of_getElem? (i := 303) (by decide +kernel))) rfl
theorem my_X3_clear : pm_Y yX3_clear cX3_clear 1 none 0 := ⟨tw_303, tw_7, ⟨by decide, by decide⟩, by decide +kernel⟩
theorem tw_291 : Cond.code yX3_add cX3_add 2 (some .boolean) ∈ pm_T := pm_in (List.mem_append_right _ (List.mem_of_getElem? (i := 291) (by decide +kernel))) rfl
theorem my_X3_add : pm_Y yX3_add cX3_add 2 (some .boolean) 1 := ⟨tw_291, tw_7, ⟨by decide, by decide⟩, by decide +kernel⟩
theorem fl_X3_9 : pm_FL RX3 9 2 0 := ⟨RX3, TX3, 2, in_X3, rfl, by decide, Or.inl tw_120⟩
theorem tw_311 : Cond.code yX3_faultPlace cX3_faultPlace 3 (some .int) ∈ pm_T := pm_in (List.mem_append_right _ (List.mem_of_getElem? (i := 311) (by decide +kernel))) rfl
theorem my_X3_faultPlace : pm_Y yX3_faultPlace cX3_faultPlace 3 (some .int) 0 := ⟨tw_311, tw_7, ⟨by decide, by decide⟩, by decide +kernel⟩
theorem tw_312 : Cond.methodLink RX3 19 yX3_nextAfter ∈ pm_T := pm_in (List.mem_append_right _ (List.mem_of_getElem? (i := 312) (by decide +kernel))) rfl
theorem tw_313 : Cond.static yX3_nextAfter ∈ pm_T := pm_in (List.mem_append_right _ (List.mem_of_getElem? (i := 313) (by decide +kernel))) rfl
theorem sl_X3_19 : pm_LS RX3 19 yX3_nextAfter := ⟨Or.inl tw_312, tw_313⟩
theorem tw_314 : Cond.code yX3_nextAfter cX3_nextAfter 2 (some .int) ∈ pm_T := pm_in (List.mem_append_right _ (List.mem_of_getElem? (i := 314) (by decide +kernel))) rfl
theorem my_X3_nextAfter : pm_Y yX3_nextAfter cX3_nextAfter 2 (some .int) 2 := ⟨tw_314, tw_7, ⟨by decide, by decide⟩, by decide +kernel⟩
theorem tw_315 : Cond.methodLink RX3 23 yX3_nextAfterStart ∈ pm_T := pm_in (List.mem_append_right _ (List.mem_of_getElem? (i := 315) (by decide +kernel))) rfl
theorem tw_316 : Cond.static yX3_nextAfterStart ∈ pm_T := pm_in (List.mem_append_right _ (List.mem_of_getElem? (i := 316) (by decide +kernel))) rfl
theorem sl_X3_23 : pm_LS RX3 23 yX3_nextAfterStart := ⟨Or.inl tw_315, tw_316⟩
theorem tw_318 : Cond.methodLinkNest RX3 27 yX9_isFarm "PaleMoor" ∈ pm_T := pm_in (List.mem_append_right _ (List.mem_of_getElem? (i := 318) (by decide +kernel))) rfl
theorem sl_X3_27 : pm_LS RX3 27 yX9_isFarm := ⟨Or.inr ⟨_, tw_318⟩, tw_217⟩
theorem tw_317 : Cond.code yX3_nextAfterStart cX3_nextAfterStart 1 (some .int) ∈ pm_T := pm_in (List.mem_append_right _ (List.mem_of_getElem? (i := 317) (by decide +kernel))) rfl
theorem my_X3_nextAfterStart : pm_Y yX3_nextAfterStart cX3_nextAfterStart 1 (some .int) 1 := ⟨tw_317, tw_7, ⟨by decide, by decide⟩, by decide +kernel⟩
theorem tw_347 : Cond.code yX3_signAt cX3_signAt 2 (some .int) ∈ pm_T := pm_in (List.mem_append_right _ (List.mem_of_getElem? (i := 347) (by decide +kernel))) rfl
theorem my_X3_signAt : pm_Y yX3_signAt cX3_signAt 2 (some .int) 1 := ⟨tw_347, tw_7, ⟨by decide, by decide⟩, by decide +kernel⟩
theorem tw_343 : Cond.code yX3_kindAt cX3_kindAt 2 (some .int) ∈ pm_T := pm_in (List.mem_append_right _ (List.mem_of_getElem? (i := 343) (by decide +kernel))) rfl
theorem my_X3_kindAt : pm_Y yX3_kindAt cX3_kindAt 2 (some .int) 1 := ⟨tw_343, tw_7, ⟨by decide, by decide⟩, by decide +kernel⟩
theorem tw_344 : Cond.methodLink RX3 31 yX3_signAt ∈ pm_T := pm_in (List.mem_append_right _ (List.mem_of_getElem? (i := 344) (by decide +kernel))) rfl
theorem tw_346 : Cond.instanceMethod yX3_signAt ∈ pm_T := pm_in (List.mem_append_right _ (List.mem_of_getElem? (i := 346) (by decide +kernel))) rfl
theorem ts_3 : Cond.selects RX3 yX3_signAt yX3_signAt ∈ pm_T := pm_in (List.mem_append_left _ (List.mem_of_getElem? (i := 3) (by decide +kernel))) rfl
theorem vl_X3_31 : pm_LV RX3 31 yX3_signAt := ⟨tw_344, tw_346, ts_3⟩
theorem tw_348 : Cond.methodLink RX3 34 yX3_deedKind ∈ pm_T := pm_in (List.mem_append_right _ (List.mem_of_getElem? (i := 348) (by decide +kernel))) rfl
theorem tw_349 : Cond.static yX3_deedKind ∈ pm_T := pm_in (List.mem_append_right _ (List.mem_of_getElem? (i := 349) (by decide +kernel))) rfl
theorem sl_X3_34 : pm_LS RX3 34 yX3_deedKind := ⟨Or.inl tw_348, tw_349⟩
theorem tw_350 : Cond.code yX3_deedKind cX3_deedKind 1 (some .int) ∈ pm_T := pm_in (List.mem_append_right _ (List.mem_of_getElem? (i := 350) (by decide +kernel))) rfl
theorem my_X3_deedKind : pm_Y yX3_deedKind cX3_deedKind 1 (some .int) 1 := ⟨tw_350, tw_7, ⟨by decide, by decide⟩, by decide +kernel⟩
theorem tw_354 : Cond.code yX3_manAt cX3_manAt 2 (some .int) ∈ pm_T := pm_in (List.mem_append_right _ (List.mem_of_getElem? (i := 354) (by decide +kernel))) rfl
theorem my_X3_manAt : pm_Y yX3_manAt cX3_manAt 2 (some .int) 1 := ⟨tw_354, tw_7, ⟨by decide, by decide⟩, by decide +kernel⟩
theorem tw_358 : Cond.code yX3_numberAt cX3_numberAt 3 (some .int) ∈ pm_T := pm_in (List.mem_append_right _ (List.mem_of_getElem? (i := 358) (by decide +kernel))) rfl
theorem my_X3_numberAt : pm_Y yX3_numberAt cX3_numberAt 3 (some .int) 2 := ⟨tw_358, tw_7, ⟨by decide, by decide⟩, by decide +kernel⟩
theorem tw_436 : Cond.code yX3_lengthOf cX3_lengthOf 1 (some .int) ∈ pm_T := pm_in (List.mem_append_right _ (List.mem_of_getElem? (i := 436) (by decide +kernel))) rfl
theorem my_X3_lengthOf : pm_Y yX3_lengthOf cX3_lengthOf 1 (some .int) 1 := ⟨tw_436, tw_7, ⟨by decide, by decide⟩, by decide +kernel⟩
theorem tw_175 : Cond.code yX4_init cX4_init 4 none ∈ pm_T := pm_in (List.mem_append_right _ (List.mem_of_getElem? (i := 175) (by decide +kernel))) rfl
theorem tw_10 : Cond.initialized RX4 ∈ pm_T := pm_in (List.mem_append_right _ (List.mem_of_getElem? (i := 10) (by decide +kernel))) rfl
theorem my_X4_init : pm_Y yX4_init cX4_init 4 none 0 := ⟨tw_175, tw_10, ⟨by decide, by decide⟩, by decide +kernel⟩
theorem tw_176 : Cond.methodLink RX4 3 objectInit ∈ pm_T := pm_in (List.mem_append_right _ (List.mem_of_getElem? (i := 176) (by decide +kernel))) rfl
theorem oi_X4_3 : Cond.methodLink RX4 3 objectInit ∈ pm_T ∧ Cond.instanceMethod objectInit ∈ pm_T ∧ Cond.code objectInit ⟨#[0xb1]⟩ 1 none ∈ pm_T := ⟨tw_176, tw_22, tw_23⟩
theorem tw_180 : Cond.fieldLink RX4 9 (TX4 0).1 (TX4 0).2.1 (TX4 0).2.2.1 ∈ pm_T := pm_in (List.mem_append_right _ (List.mem_of_getElem? (i := 180) (by decide +kernel))) rfl
theorem fp_X4_9 : pm_FP RX4 9 3 0 true (.array .int) := ⟨RX4, TX4, 1, tyX4, in_X4, rfl, by decide, tw_180, tyX4_ok, nmX4, rfl, by decide +kernel, fun _ => rfl⟩
theorem fl_X4_9 : pm_FL RX4 9 3 0 := ⟨RX4, TX4, 1, in_X4, rfl, by decide, Or.inl tw_180⟩
theorem tw_177 : Cond.methodLink RX4 15 yX4_leastMissing ∈ pm_T := pm_in (List.mem_append_right _ (List.mem_of_getElem? (i := 177) (by decide +kernel))) rfl
theorem tw_178 : Cond.static yX4_leastMissing ∈ pm_T := pm_in (List.mem_append_right _ (List.mem_of_getElem? (i := 178) (by decide +kernel))) rfl
theorem sl_X4_15 : pm_LS RX4 15 yX4_leastMissing := ⟨Or.inl tw_177, tw_178⟩
theorem tw_179 : Cond.code yX4_leastMissing cX4_leastMissing 2 (some .int) ∈ pm_T := pm_in (List.mem_append_right _ (List.mem_of_getElem? (i := 179) (by decide +kernel))) rfl
theorem my_X4_leastMissing : pm_Y yX4_leastMissing cX4_leastMissing 2 (some .int) 1 := ⟨tw_179, tw_10, ⟨by decide, by decide⟩, by decide +kernel⟩
theorem tw_601 : Cond.code yX4_winningLess cX4_winningLess 3 (some .int) ∈ pm_T := pm_in (List.mem_append_right _ (List.mem_of_getElem? (i := 601) (by decide +kernel))) rfl
theorem my_X4_winningLess : pm_Y yX4_winningLess cX4_winningLess 3 (some .int) 1 := ⟨tw_601, tw_10, ⟨by decide, by decide⟩, by decide +kernel⟩
theorem tw_162 : Cond.code yX5_init cX5_init 1 none ∈ pm_T := pm_in (List.mem_append_right _ (List.mem_of_getElem? (i := 162) (by decide +kernel))) rfl
theorem tw_9 : Cond.initialized RX5 ∈ pm_T := pm_in (List.mem_append_right _ (List.mem_of_getElem? (i := 9) (by decide +kernel))) rfl
theorem my_X5_init : pm_Y yX5_init cX5_init 1 none 0 := ⟨tw_162, tw_9, ⟨by decide, by decide⟩, by decide +kernel⟩
theorem tw_163 : Cond.methodLink RX5 3 objectInit ∈ pm_T := pm_in (List.mem_append_right _ (List.mem_of_getElem? (i := 163) (by decide +kernel))) rfl
theorem oi_X5_3 : Cond.methodLink RX5 3 objectInit ∈ pm_T ∧ Cond.instanceMethod objectInit ∈ pm_T ∧ Cond.code objectInit ⟨#[0xb1]⟩ 1 none ∈ pm_T := ⟨tw_163, tw_22, tw_23⟩
theorem tw_164 : Cond.fieldLink RX5 9 (TX5 0).1 (TX5 0).2.1 (TX5 0).2.2.1 ∈ pm_T := pm_in (List.mem_append_right _ (List.mem_of_getElem? (i := 164) (by decide +kernel))) rfl
theorem fp_X5_9 : pm_FP RX5 9 4 0 true (.array .int) := ⟨RX5, TX5, 2, tyX5, in_X5, rfl, by decide, tw_164, tyX5_ok, nmX5, rfl, by decide +kernel, fun _ => rfl⟩
theorem tw_165 : Cond.fieldLink RX5 15 (TX5 1).1 (TX5 1).2.1 (TX5 1).2.2.1 ∈ pm_T := pm_in (List.mem_append_right _ (List.mem_of_getElem? (i := 165) (by decide +kernel))) rfl
theorem fp_X5_15 : pm_FP RX5 15 4 1 true (.array .int) := ⟨RX5, TX5, 2, tyX5, in_X5, rfl, by decide, tw_165, tyX5_ok, nmX5, rfl, by decide +kernel, fun _ => rfl⟩
theorem tw_471 : Cond.code yX5_measure cX5_measure 5 none ∈ pm_T := pm_in (List.mem_append_right _ (List.mem_of_getElem? (i := 471) (by decide +kernel))) rfl
theorem my_X5_measure : pm_Y yX5_measure cX5_measure 5 none 1 := ⟨tw_471, tw_9, ⟨by decide, by decide⟩, by decide +kernel⟩
theorem tw_472 : Cond.methodLink RX5 18 yX2_milesBetween ∈ pm_T := pm_in (List.mem_append_right _ (List.mem_of_getElem? (i := 472) (by decide +kernel))) rfl
theorem vl_X5_18 : pm_LV RX5 18 yX2_milesBetween := ⟨tw_472, tw_237, tw_238⟩
theorem fl_X5_9 : pm_FL RX5 9 4 0 := ⟨RX5, TX5, 2, in_X5, rfl, by decide, Or.inl tw_164⟩
theorem tw_473 : Cond.methodLink RX5 24 yX5_shortenBy ∈ pm_T := pm_in (List.mem_append_right _ (List.mem_of_getElem? (i := 473) (by decide +kernel))) rfl
theorem tw_475 : Cond.instanceMethod yX5_shortenBy ∈ pm_T := pm_in (List.mem_append_right _ (List.mem_of_getElem? (i := 475) (by decide +kernel))) rfl
theorem ts_13 : Cond.selects RX5 yX5_shortenBy yX5_shortenBy ∈ pm_T := pm_in (List.mem_append_left _ (List.mem_of_getElem? (i := 13) (by decide +kernel))) rfl
theorem vl_X5_24 : pm_LV RX5 24 yX5_shortenBy := ⟨tw_473, tw_475, ts_13⟩
theorem tw_476 : Cond.code yX5_shortenBy cX5_shortenBy 5 none ∈ pm_T := pm_in (List.mem_append_right _ (List.mem_of_getElem? (i := 476) (by decide +kernel))) rfl
theorem my_X5_shortenBy : pm_Y yX5_shortenBy cX5_shortenBy 5 none 1 := ⟨tw_476, tw_9, ⟨by decide, by decide⟩, by decide +kernel⟩
theorem tw_480 : Cond.code yX5_between cX5_between 3 (some .int) ∈ pm_T := pm_in (List.mem_append_right _ (List.mem_of_getElem? (i := 480) (by decide +kernel))) rfl
theorem my_X5_between : pm_Y yX5_between cX5_between 3 (some .int) 2 := ⟨tw_480, tw_9, ⟨by decide, by decide⟩, by decide +kernel⟩
theorem tw_481 : Cond.methodLinkNest RX5 28 yX9_isFarm "PaleMoor" ∈ pm_T := pm_in (List.mem_append_right _ (List.mem_of_getElem? (i := 481) (by decide +kernel))) rfl
theorem sl_X5_28 : pm_LS RX5 28 yX9_isFarm := ⟨Or.inr ⟨_, tw_481⟩, tw_217⟩
theorem tw_482 : Cond.methodLink RX5 32 yX5_milesOrNone ∈ pm_T := pm_in (List.mem_append_right _ (List.mem_of_getElem? (i := 482) (by decide +kernel))) rfl
theorem tw_483 : Cond.static yX5_milesOrNone ∈ pm_T := pm_in (List.mem_append_right _ (List.mem_of_getElem? (i := 483) (by decide +kernel))) rfl
theorem sl_X5_32 : pm_LS RX5 32 yX5_milesOrNone := ⟨Or.inl tw_482, tw_483⟩
theorem tw_484 : Cond.code yX5_milesOrNone cX5_milesOrNone 1 (some .int) ∈ pm_T := pm_in (List.mem_append_right _ (List.mem_of_getElem? (i := 484) (by decide +kernel))) rfl
theorem my_X5_milesOrNone : pm_Y yX5_milesOrNone cX5_milesOrNone 1 (some .int) 1 := ⟨tw_484, tw_9, ⟨by decide, by decide⟩, by decide +kernel⟩
theorem tw_496 : Cond.code yX5_tour cX5_tour 5 (some .int) ∈ pm_T := pm_in (List.mem_append_right _ (List.mem_of_getElem? (i := 496) (by decide +kernel))) rfl
theorem my_X5_tour : pm_Y yX5_tour cX5_tour 5 (some .int) 2 := ⟨tw_496, tw_9, ⟨by decide, by decide⟩, by decide +kernel⟩
theorem fl_X5_15 : pm_FL RX5 15 4 1 := ⟨RX5, TX5, 2, in_X5, rfl, by decide, Or.inl tw_165⟩
theorem tw_497 : Cond.methodLink RX5 36 yJ7_fill_53178 ∈ pm_T := pm_in (List.mem_append_right _ (List.mem_of_getElem? (i := 497) (by decide +kernel))) rfl
theorem sl_X5_36 : pm_LS RX5 36 yJ7_fill_53178 := ⟨Or.inl tw_497, tw_37⟩
theorem tw_498 : Cond.methodLink RX5 42 yX5_lengthen ∈ pm_T := pm_in (List.mem_append_right _ (List.mem_of_getElem? (i := 498) (by decide +kernel))) rfl
theorem tw_500 : Cond.instanceMethod yX5_lengthen ∈ pm_T := pm_in (List.mem_append_right _ (List.mem_of_getElem? (i := 500) (by decide +kernel))) rfl
theorem ts_14 : Cond.selects RX5 yX5_lengthen yX5_lengthen ∈ pm_T := pm_in (List.mem_append_left _ (List.mem_of_getElem? (i := 14) (by decide +kernel))) rfl
theorem vl_X5_42 : pm_LV RX5 42 yX5_lengthen := ⟨tw_498, tw_500, ts_14⟩
theorem tw_502 : Cond.methodLink RX5 46 yX5_leastHome ∈ pm_T := pm_in (List.mem_append_right _ (List.mem_of_getElem? (i := 502) (by decide +kernel))) rfl
theorem tw_504 : Cond.instanceMethod yX5_leastHome ∈ pm_T := pm_in (List.mem_append_right _ (List.mem_of_getElem? (i := 504) (by decide +kernel))) rfl
theorem ts_15 : Cond.selects RX5 yX5_leastHome yX5_leastHome ∈ pm_T := pm_in (List.mem_append_left _ (List.mem_of_getElem? (i := 15) (by decide +kernel))) rfl
theorem vl_X5_46 : pm_LV RX5 46 yX5_leastHome := ⟨tw_502, tw_504, ts_15⟩
theorem tw_501 : Cond.code yX5_lengthen cX5_lengthen 7 none ∈ pm_T := pm_in (List.mem_append_right _ (List.mem_of_getElem? (i := 501) (by decide +kernel))) rfl
theorem my_X5_lengthen : pm_Y yX5_lengthen cX5_lengthen 7 none 3 := ⟨tw_501, tw_9, ⟨by decide, by decide⟩, by decide +kernel⟩
theorem tw_505 : Cond.code yX5_leastHome cX5_leastHome 5 (some .int) ∈ pm_T := pm_in (List.mem_append_right _ (List.mem_of_getElem? (i := 505) (by decide +kernel))) rfl
theorem my_X5_leastHome : pm_Y yX5_leastHome cX5_leastHome 5 (some .int) 2 := ⟨tw_505, tw_9, ⟨by decide, by decide⟩, by decide +kernel⟩
theorem tw_506 : Cond.methodLink RX5 49 yJ9_min_7cf53 ∈ pm_T := pm_in (List.mem_append_right _ (List.mem_of_getElem? (i := 506) (by decide +kernel))) rfl
theorem sl_X5_49 : pm_LS RX5 49 yJ9_min_7cf53 := ⟨Or.inl tw_506, tw_396⟩
theorem tw_74 : Cond.code yX6_init cX6_init 1 none ∈ pm_T := pm_in (List.mem_append_right _ (List.mem_of_getElem? (i := 74) (by decide +kernel))) rfl
theorem tw_6 : Cond.initialized RX6 ∈ pm_T := pm_in (List.mem_append_right _ (List.mem_of_getElem? (i := 6) (by decide +kernel))) rfl
theorem my_X6_init : pm_Y yX6_init cX6_init 1 none 0 := ⟨tw_74, tw_6, ⟨by decide, by decide⟩, by decide +kernel⟩
theorem tw_75 : Cond.methodLink RX6 3 objectInit ∈ pm_T := pm_in (List.mem_append_right _ (List.mem_of_getElem? (i := 75) (by decide +kernel))) rfl
theorem oi_X6_3 : Cond.methodLink RX6 3 objectInit ∈ pm_T ∧ Cond.instanceMethod objectInit ∈ pm_T ∧ Cond.code objectInit ⟨#[0xb1]⟩ 1 none ∈ pm_T := ⟨tw_75, tw_22, tw_23⟩
theorem tw_80 : Cond.fieldLink RX6 9 (TX6 0).1 (TX6 0).2.1 (TX6 0).2.2.1 ∈ pm_T := pm_in (List.mem_append_right _ (List.mem_of_getElem? (i := 80) (by decide +kernel))) rfl
theorem fp_X6_9 : pm_FP RX6 9 5 0 true (.array .int) := ⟨RX6, TX6, 4, tyX6, in_X6, rfl, by decide, tw_80, tyX6_ok, nmX6, rfl, by decide +kernel, fun _ => rfl⟩
theorem tw_81 : Cond.fieldLink RX6 15 (TX6 1).1 (TX6 1).2.1 (TX6 1).2.2.1 ∈ pm_T := pm_in (List.mem_append_right _ (List.mem_of_getElem? (i := 81) (by decide +kernel))) rfl
theorem fp_X6_15 : pm_FP RX6 15 5 1 true (.array .int) := ⟨RX6, TX6, 4, tyX6, in_X6, rfl, by decide, tw_81, tyX6_ok, nmX6, rfl, by decide +kernel, fun _ => rfl⟩
theorem tw_82 : Cond.fieldLink RX6 18 (TX6 2).1 (TX6 2).2.1 (TX6 2).2.2.1 ∈ pm_T := pm_in (List.mem_append_right _ (List.mem_of_getElem? (i := 82) (by decide +kernel))) rfl
theorem fp_X6_18 : pm_FP RX6 18 5 2 false .int := ⟨RX6, TX6, 4, tyX6, in_X6, rfl, by decide, tw_82, tyX6_ok, nmX6, rfl, by decide +kernel, fun h => by cases h⟩
theorem tw_84 : Cond.fieldLink RX6 22 (TX6 3).1 (TX6 3).2.1 (TX6 3).2.2.1 ∈ pm_T := pm_in (List.mem_append_right _ (List.mem_of_getElem? (i := 84) (by decide +kernel))) rfl
theorem fp_X6_22 : pm_FP RX6 22 5 3 false .int := ⟨RX6, TX6, 4, tyX6, in_X6, rfl, by decide, tw_84, tyX6_ok, nmX6, rfl, by decide +kernel, fun h => by cases h⟩
theorem tw_76 : Cond.methodLink RX6 25 yX6_clear ∈ pm_T := pm_in (List.mem_append_right _ (List.mem_of_getElem? (i := 76) (by decide +kernel))) rfl
theorem tw_77 : Cond.instanceMethod yX6_clear ∈ pm_T := pm_in (List.mem_append_right _ (List.mem_of_getElem? (i := 77) (by decide +kernel))) rfl
theorem tw_78 : Cond.selects RX6 yX6_clear yX6_clear ∈ pm_T := pm_in (List.mem_append_right _ (List.mem_of_getElem? (i := 78) (by decide +kernel))) rfl
theorem vl_X6_25 : pm_LV RX6 25 yX6_clear := ⟨tw_76, tw_77, tw_78⟩
theorem tw_661 : Cond.code yX6_copyFrom cX6_copyFrom 2 none ∈ pm_T := pm_in (List.mem_append_right _ (List.mem_of_getElem? (i := 661) (by decide +kernel))) rfl
theorem my_X6_copyFrom : pm_Y yX6_copyFrom cX6_copyFrom 2 none 1 := ⟨tw_661, tw_6, ⟨by decide, by decide⟩, by decide +kernel⟩
theorem fl_X6_9 : pm_FL RX6 9 5 0 := ⟨RX6, TX6, 4, in_X6, rfl, by decide, Or.inl tw_80⟩
theorem tw_662 : Cond.methodLink RX6 28 arraycopyName ∈ pm_T := pm_in (List.mem_append_right _ (List.mem_of_getElem? (i := 662) (by decide +kernel))) rfl
theorem ac_X6_28 : Cond.methodLink RX6 28 arraycopyName ∈ pm_T ∧ Cond.native arraycopyName ∈ pm_T ∧ Cond.static arraycopyName ∈ pm_T ∧ Cond.initialized "java/lang/System" ∈ pm_T := ⟨tw_662, tw_338, tw_337, tw_12⟩
theorem fl_X6_18 : pm_FL RX6 18 5 2 := ⟨RX6, TX6, 4, in_X6, rfl, by decide, Or.inl tw_82⟩
theorem fl_X6_22 : pm_FL RX6 22 5 3 := ⟨RX6, TX6, 4, in_X6, rfl, by decide, Or.inl tw_84⟩
theorem tw_79 : Cond.code yX6_clear cX6_clear 2 none ∈ pm_T := pm_in (List.mem_append_right _ (List.mem_of_getElem? (i := 79) (by decide +kernel))) rfl
theorem my_X6_clear : pm_Y yX6_clear cX6_clear 2 none 0 := ⟨tw_79, tw_6, ⟨by decide, by decide⟩, by decide +kernel⟩
theorem tw_556 : Cond.code yX6_add cX6_add 6 (some .boolean) ∈ pm_T := pm_in (List.mem_append_right _ (List.mem_of_getElem? (i := 556) (by decide +kernel))) rfl
theorem my_X6_add : pm_Y yX6_add cX6_add 6 (some .boolean) 3 := ⟨tw_556, tw_6, ⟨by decide, by decide⟩, by decide +kernel⟩
theorem tw_557 : Cond.methodLink RX6 34 yX6_isDown ∈ pm_T := pm_in (List.mem_append_right _ (List.mem_of_getElem? (i := 557) (by decide +kernel))) rfl
theorem tw_558 : Cond.static yX6_isDown ∈ pm_T := pm_in (List.mem_append_right _ (List.mem_of_getElem? (i := 558) (by decide +kernel))) rfl
theorem sl_X6_34 : pm_LS RX6 34 yX6_isDown := ⟨Or.inl tw_557, tw_558⟩
theorem tw_559 : Cond.code yX6_isDown cX6_isDown 3 (some .boolean) ∈ pm_T := pm_in (List.mem_append_right _ (List.mem_of_getElem? (i := 559) (by decide +kernel))) rfl
theorem my_X6_isDown : pm_Y yX6_isDown cX6_isDown 3 (some .boolean) 3 := ⟨tw_559, tw_6, ⟨by decide, by decide⟩, by decide +kernel⟩
theorem tw_560 : Cond.methodLink RX6 38 yX6_lastDown ∈ pm_T := pm_in (List.mem_append_right _ (List.mem_of_getElem? (i := 560) (by decide +kernel))) rfl
theorem tw_561 : Cond.static yX6_lastDown ∈ pm_T := pm_in (List.mem_append_right _ (List.mem_of_getElem? (i := 561) (by decide +kernel))) rfl
theorem sl_X6_38 : pm_LS RX6 38 yX6_lastDown := ⟨Or.inl tw_560, tw_561⟩
theorem tw_562 : Cond.code yX6_lastDown cX6_lastDown 2 (some .int) ∈ pm_T := pm_in (List.mem_append_right _ (List.mem_of_getElem? (i := 562) (by decide +kernel))) rfl
theorem my_X6_lastDown : pm_Y yX6_lastDown cX6_lastDown 2 (some .int) 2 := ⟨tw_562, tw_6, ⟨by decide, by decide⟩, by decide +kernel⟩
theorem tw_575 : Cond.code yX6_caseAt cX6_caseAt 2 (some .int) ∈ pm_T := pm_in (List.mem_append_right _ (List.mem_of_getElem? (i := 575) (by decide +kernel))) rfl
theorem my_X6_caseAt : pm_Y yX6_caseAt cX6_caseAt 2 (some .int) 1 := ⟨tw_575, tw_6, ⟨by decide, by decide⟩, by decide +kernel⟩
theorem tw_583 : Cond.code yX6_bestQuestion cX6_bestQuestion 7 (some .int) ∈ pm_T := pm_in (List.mem_append_right _ (List.mem_of_getElem? (i := 583) (by decide +kernel))) rfl
theorem my_X6_bestQuestion : pm_Y yX6_bestQuestion cX6_bestQuestion 7 (some .int) 0 := ⟨tw_583, tw_6, ⟨by decide, by decide⟩, by decide +kernel⟩
theorem tw_584 : Cond.methodLink RX6 42 yX6_tally ∈ pm_T := pm_in (List.mem_append_right _ (List.mem_of_getElem? (i := 584) (by decide +kernel))) rfl
theorem tw_586 : Cond.instanceMethod yX6_tally ∈ pm_T := pm_in (List.mem_append_right _ (List.mem_of_getElem? (i := 586) (by decide +kernel))) rfl
theorem ts_20 : Cond.selects RX6 yX6_tally yX6_tally ∈ pm_T := pm_in (List.mem_append_left _ (List.mem_of_getElem? (i := 20) (by decide +kernel))) rfl
theorem vl_X6_42 : pm_LV RX6 42 yX6_tally := ⟨tw_584, tw_586, ts_20⟩
theorem fl_X6_15 : pm_FL RX6 15 5 1 := ⟨RX6, TX6, 4, in_X6, rfl, by decide, Or.inl tw_81⟩
theorem tw_589 : Cond.methodLink RX6 46 yJ9_max_7cf53 ∈ pm_T := pm_in (List.mem_append_right _ (List.mem_of_getElem? (i := 589) (by decide +kernel))) rfl
theorem sl_X6_46 : pm_LS RX6 46 yJ9_max_7cf53 := ⟨Or.inl tw_589, tw_399⟩
theorem tw_587 : Cond.code yX6_tally cX6_tally 5 none ∈ pm_T := pm_in (List.mem_append_right _ (List.mem_of_getElem? (i := 587) (by decide +kernel))) rfl
theorem my_X6_tally : pm_Y yX6_tally cX6_tally 5 none 1 := ⟨tw_587, tw_6, ⟨by decide, by decide⟩, by decide +kernel⟩
theorem tw_588 : Cond.methodLink RX6 51 yJ7_fill_53178 ∈ pm_T := pm_in (List.mem_append_right _ (List.mem_of_getElem? (i := 588) (by decide +kernel))) rfl
theorem sl_X6_51 : pm_LS RX6 51 yJ7_fill_53178 := ⟨Or.inl tw_588, tw_37⟩
theorem tw_593 : Cond.code yX6_leftAtMost cX6_leftAtMost 4 (some .int) ∈ pm_T := pm_in (List.mem_append_right _ (List.mem_of_getElem? (i := 593) (by decide +kernel))) rfl
theorem my_X6_leftAtMost : pm_Y yX6_leftAtMost cX6_leftAtMost 4 (some .int) 1 := ⟨tw_593, tw_6, ⟨by decide, by decide⟩, by decide +kernel⟩
theorem tw_131 : Cond.code yX7_init cX7_init 1 none ∈ pm_T := pm_in (List.mem_append_right _ (List.mem_of_getElem? (i := 131) (by decide +kernel))) rfl
theorem tw_8 : Cond.initialized RX7 ∈ pm_T := pm_in (List.mem_append_right _ (List.mem_of_getElem? (i := 8) (by decide +kernel))) rfl
theorem my_X7_init : pm_Y yX7_init cX7_init 1 none 0 := ⟨tw_131, tw_8, ⟨by decide, by decide⟩, by decide +kernel⟩
theorem tw_132 : Cond.methodLink RX7 3 objectInit ∈ pm_T := pm_in (List.mem_append_right _ (List.mem_of_getElem? (i := 132) (by decide +kernel))) rfl
theorem oi_X7_3 : Cond.methodLink RX7 3 objectInit ∈ pm_T ∧ Cond.instanceMethod objectInit ∈ pm_T ∧ Cond.code objectInit ⟨#[0xb1]⟩ 1 none ∈ pm_T := ⟨tw_132, tw_22, tw_23⟩
theorem tw_133 : Cond.fieldLink RX7 9 (TX7 0).1 (TX7 0).2.1 (TX7 0).2.2.1 ∈ pm_T := pm_in (List.mem_append_right _ (List.mem_of_getElem? (i := 133) (by decide +kernel))) rfl
theorem fp_X7_9 : pm_FP RX7 9 6 0 false .int := ⟨RX7, TX7, 6, tyX7, in_X7, rfl, by decide, tw_133, tyX7_ok, nmX7, rfl, by decide +kernel, fun h => by cases h⟩
theorem tw_135 : Cond.fieldLink RX7 15 (TX7 1).1 (TX7 1).2.1 (TX7 1).2.2.1 ∈ pm_T := pm_in (List.mem_append_right _ (List.mem_of_getElem? (i := 135) (by decide +kernel))) rfl
theorem fp_X7_15 : pm_FP RX7 15 6 1 false .int := ⟨RX7, TX7, 6, tyX7, in_X7, rfl, by decide, tw_135, tyX7_ok, nmX7, rfl, by decide +kernel, fun h => by cases h⟩
theorem tw_137 : Cond.fieldLink RX7 18 (TX7 2).1 (TX7 2).2.1 (TX7 2).2.2.1 ∈ pm_T := pm_in (List.mem_append_right _ (List.mem_of_getElem? (i := 137) (by decide +kernel))) rfl
theorem fp_X7_18 : pm_FP RX7 18 6 2 false .int := ⟨RX7, TX7, 6, tyX7, in_X7, rfl, by decide, tw_137, tyX7_ok, nmX7, rfl, by decide +kernel, fun h => by cases h⟩
theorem tw_139 : Cond.fieldLink RX7 21 (TX7 3).1 (TX7 3).2.1 (TX7 3).2.2.1 ∈ pm_T := pm_in (List.mem_append_right _ (List.mem_of_getElem? (i := 139) (by decide +kernel))) rfl
theorem fp_X7_21 : pm_FP RX7 21 6 3 false .int := ⟨RX7, TX7, 6, tyX7, in_X7, rfl, by decide, tw_139, tyX7_ok, nmX7, rfl, by decide +kernel, fun h => by cases h⟩
theorem tw_141 : Cond.fieldLink RX7 24 (TX7 4).1 (TX7 4).2.1 (TX7 4).2.2.1 ∈ pm_T := pm_in (List.mem_append_right _ (List.mem_of_getElem? (i := 141) (by decide +kernel))) rfl
theorem fp_X7_24 : pm_FP RX7 24 6 4 false .int := ⟨RX7, TX7, 6, tyX7, in_X7, rfl, by decide, tw_141, tyX7_ok, nmX7, rfl, by decide +kernel, fun h => by cases h⟩
theorem tw_143 : Cond.fieldLink RX7 27 (TX7 5).1 (TX7 5).2.1 (TX7 5).2.2.1 ∈ pm_T := pm_in (List.mem_append_right _ (List.mem_of_getElem? (i := 143) (by decide +kernel))) rfl
theorem fp_X7_27 : pm_FP RX7 27 6 5 false .int := ⟨RX7, TX7, 6, tyX7, in_X7, rfl, by decide, tw_143, tyX7_ok, nmX7, rfl, by decide +kernel, fun h => by cases h⟩
theorem tw_326 : Cond.code yX7_canBe cX7_canBe 7 (some .boolean) ∈ pm_T := pm_in (List.mem_append_right _ (List.mem_of_getElem? (i := 326) (by decide +kernel))) rfl
theorem my_X7_canBe : pm_Y yX7_canBe cX7_canBe 7 (some .boolean) 3 := ⟨tw_326, tw_8, ⟨by decide, by decide⟩, by decide +kernel⟩
theorem tw_327 : Cond.methodLink RX7 30 yX3_faultPlace ∈ pm_T := pm_in (List.mem_append_right _ (List.mem_of_getElem? (i := 327) (by decide +kernel))) rfl
theorem tw_309 : Cond.instanceMethod yX3_faultPlace ∈ pm_T := pm_in (List.mem_append_right _ (List.mem_of_getElem? (i := 309) (by decide +kernel))) rfl
theorem tw_310 : Cond.selects RX3 yX3_faultPlace yX3_faultPlace ∈ pm_T := pm_in (List.mem_append_right _ (List.mem_of_getElem? (i := 310) (by decide +kernel))) rfl
theorem vl_X7_30 : pm_LV RX7 30 yX3_faultPlace := ⟨tw_327, tw_309, tw_310⟩
theorem tw_328 : Cond.methodLink RX7 36 yX7_begin ∈ pm_T := pm_in (List.mem_append_right _ (List.mem_of_getElem? (i := 328) (by decide +kernel))) rfl
theorem tw_330 : Cond.instanceMethod yX7_begin ∈ pm_T := pm_in (List.mem_append_right _ (List.mem_of_getElem? (i := 330) (by decide +kernel))) rfl
theorem ts_2 : Cond.selects RX7 yX7_begin yX7_begin ∈ pm_T := pm_in (List.mem_append_left _ (List.mem_of_getElem? (i := 2) (by decide +kernel))) rfl
theorem vl_X7_36 : pm_LV RX7 36 yX7_begin := ⟨tw_328, tw_330, ts_2⟩
theorem tw_332 : Cond.methodLink RX7 39 yX2_copyFrom ∈ pm_T := pm_in (List.mem_append_right _ (List.mem_of_getElem? (i := 332) (by decide +kernel))) rfl
theorem tw_333 : Cond.instanceMethod yX2_copyFrom ∈ pm_T := pm_in (List.mem_append_right _ (List.mem_of_getElem? (i := 333) (by decide +kernel))) rfl
theorem tw_334 : Cond.selects RX2 yX2_copyFrom yX2_copyFrom ∈ pm_T := pm_in (List.mem_append_right _ (List.mem_of_getElem? (i := 334) (by decide +kernel))) rfl
theorem vl_X7_39 : pm_LV RX7 39 yX2_copyFrom := ⟨tw_332, tw_333, tw_334⟩
theorem tw_339 : Cond.methodLink RX7 45 yX3_size ∈ pm_T := pm_in (List.mem_append_right _ (List.mem_of_getElem? (i := 339) (by decide +kernel))) rfl
theorem tw_293 : Cond.instanceMethod yX3_size ∈ pm_T := pm_in (List.mem_append_right _ (List.mem_of_getElem? (i := 293) (by decide +kernel))) rfl
theorem tw_294 : Cond.selects RX3 yX3_size yX3_size ∈ pm_T := pm_in (List.mem_append_right _ (List.mem_of_getElem? (i := 294) (by decide +kernel))) rfl
theorem vl_X7_45 : pm_LV RX7 45 yX3_size := ⟨tw_339, tw_293, tw_294⟩
theorem fl_X7_15 : pm_FL RX7 15 6 1 := ⟨RX7, TX7, 6, in_X7, rfl, by decide, Or.inl tw_135⟩
theorem tw_340 : Cond.methodLink RX7 48 yX3_kindAt ∈ pm_T := pm_in (List.mem_append_right _ (List.mem_of_getElem? (i := 340) (by decide +kernel))) rfl
theorem tw_341 : Cond.instanceMethod yX3_kindAt ∈ pm_T := pm_in (List.mem_append_right _ (List.mem_of_getElem? (i := 341) (by decide +kernel))) rfl
theorem tw_342 : Cond.selects RX3 yX3_kindAt yX3_kindAt ∈ pm_T := pm_in (List.mem_append_right _ (List.mem_of_getElem? (i := 342) (by decide +kernel))) rfl
theorem vl_X7_48 : pm_LV RX7 48 yX3_kindAt := ⟨tw_340, tw_341, tw_342⟩
theorem tw_351 : Cond.methodLink RX7 52 yX3_manAt ∈ pm_T := pm_in (List.mem_append_right _ (List.mem_of_getElem? (i := 351) (by decide +kernel))) rfl
theorem tw_352 : Cond.instanceMethod yX3_manAt ∈ pm_T := pm_in (List.mem_append_right _ (List.mem_of_getElem? (i := 352) (by decide +kernel))) rfl
theorem tw_353 : Cond.selects RX3 yX3_manAt yX3_manAt ∈ pm_T := pm_in (List.mem_append_right _ (List.mem_of_getElem? (i := 353) (by decide +kernel))) rfl
theorem vl_X7_52 : pm_LV RX7 52 yX3_manAt := ⟨tw_351, tw_352, tw_353⟩
theorem tw_355 : Cond.methodLink RX7 55 yX3_numberAt ∈ pm_T := pm_in (List.mem_append_right _ (List.mem_of_getElem? (i := 355) (by decide +kernel))) rfl
theorem tw_356 : Cond.instanceMethod yX3_numberAt ∈ pm_T := pm_in (List.mem_append_right _ (List.mem_of_getElem? (i := 356) (by decide +kernel))) rfl
theorem tw_357 : Cond.selects RX3 yX3_numberAt yX3_numberAt ∈ pm_T := pm_in (List.mem_append_right _ (List.mem_of_getElem? (i := 357) (by decide +kernel))) rfl
theorem vl_X7_55 : pm_LV RX7 55 yX3_numberAt := ⟨tw_355, tw_356, tw_357⟩
theorem tw_359 : Cond.methodLink RX7 59 yX7_runAct ∈ pm_T := pm_in (List.mem_append_right _ (List.mem_of_getElem? (i := 359) (by decide +kernel))) rfl
theorem tw_361 : Cond.instanceMethod yX7_runAct ∈ pm_T := pm_in (List.mem_append_right _ (List.mem_of_getElem? (i := 361) (by decide +kernel))) rfl
theorem ts_4 : Cond.selects RX7 yX7_runAct yX7_runAct ∈ pm_T := pm_in (List.mem_append_left _ (List.mem_of_getElem? (i := 4) (by decide +kernel))) rfl
theorem vl_X7_59 : pm_LV RX7 59 yX7_runAct := ⟨tw_359, tw_361, ts_4⟩
theorem tw_434 : Cond.methodLink RX7 63 yX3_lengthOf ∈ pm_T := pm_in (List.mem_append_right _ (List.mem_of_getElem? (i := 434) (by decide +kernel))) rfl
theorem tw_435 : Cond.static yX3_lengthOf ∈ pm_T := pm_in (List.mem_append_right _ (List.mem_of_getElem? (i := 435) (by decide +kernel))) rfl
theorem sl_X7_63 : pm_LS RX7 63 yX3_lengthOf := ⟨Or.inl tw_434, tw_435⟩
theorem tw_331 : Cond.code yX7_begin cX7_begin 1 none ∈ pm_T := pm_in (List.mem_append_right _ (List.mem_of_getElem? (i := 331) (by decide +kernel))) rfl
theorem my_X7_begin : pm_Y yX7_begin cX7_begin 1 none 0 := ⟨tw_331, tw_8, ⟨by decide, by decide⟩, by decide +kernel⟩
theorem tw_362 : Cond.code yX7_runAct cX7_runAct 6 none ∈ pm_T := pm_in (List.mem_append_right _ (List.mem_of_getElem? (i := 362) (by decide +kernel))) rfl
theorem my_X7_runAct : pm_Y yX7_runAct cX7_runAct 6 none 4 := ⟨tw_362, tw_8, ⟨by decide, by decide⟩, by decide +kernel⟩
theorem tw_363 : Cond.methodLink RX7 66 yX2_whyNot ∈ pm_T := pm_in (List.mem_append_right _ (List.mem_of_getElem? (i := 363) (by decide +kernel))) rfl
theorem vl_X7_66 : pm_LV RX7 66 yX2_whyNot := ⟨tw_363, tw_364, tw_365⟩
theorem fl_X7_9 : pm_FL RX7 9 6 0 := ⟨RX7, TX7, 6, in_X7, rfl, by decide, Or.inl tw_133⟩
theorem fl_X7_21 : pm_FL RX7 21 6 3 := ⟨RX7, TX7, 6, in_X7, rfl, by decide, Or.inl tw_139⟩
theorem tw_389 : Cond.methodLink RX7 70 yX2_placeOf ∈ pm_T := pm_in (List.mem_append_right _ (List.mem_of_getElem? (i := 389) (by decide +kernel))) rfl
theorem vl_X7_70 : pm_LV RX7 70 yX2_placeOf := ⟨tw_389, tw_250, tw_251⟩
theorem tw_390 : Cond.methodLink RX7 73 yX2_milesBetween ∈ pm_T := pm_in (List.mem_append_right _ (List.mem_of_getElem? (i := 390) (by decide +kernel))) rfl
theorem vl_X7_73 : pm_LV RX7 73 yX2_milesBetween := ⟨tw_390, tw_237, tw_238⟩
theorem tw_391 : Cond.methodLink RX7 76 yX2_gapMadeBy ∈ pm_T := pm_in (List.mem_append_right _ (List.mem_of_getElem? (i := 391) (by decide +kernel))) rfl
theorem tw_392 : Cond.instanceMethod yX2_gapMadeBy ∈ pm_T := pm_in (List.mem_append_right _ (List.mem_of_getElem? (i := 392) (by decide +kernel))) rfl
theorem tw_393 : Cond.selects RX2 yX2_gapMadeBy yX2_gapMadeBy ∈ pm_T := pm_in (List.mem_append_right _ (List.mem_of_getElem? (i := 393) (by decide +kernel))) rfl
theorem vl_X7_76 : pm_LV RX7 76 yX2_gapMadeBy := ⟨tw_391, tw_392, tw_393⟩
theorem tw_405 : Cond.methodLink RX7 79 yX7_noteGap ∈ pm_T := pm_in (List.mem_append_right _ (List.mem_of_getElem? (i := 405) (by decide +kernel))) rfl
theorem tw_407 : Cond.instanceMethod yX7_noteGap ∈ pm_T := pm_in (List.mem_append_right _ (List.mem_of_getElem? (i := 407) (by decide +kernel))) rfl
theorem ts_9 : Cond.selects RX7 yX7_noteGap yX7_noteGap ∈ pm_T := pm_in (List.mem_append_left _ (List.mem_of_getElem? (i := 9) (by decide +kernel))) rfl
theorem vl_X7_79 : pm_LV RX7 79 yX7_noteGap := ⟨tw_405, tw_407, ts_9⟩
theorem tw_409 : Cond.methodLink RX7 83 yX2_perform ∈ pm_T := pm_in (List.mem_append_right _ (List.mem_of_getElem? (i := 409) (by decide +kernel))) rfl
theorem vl_X7_83 : pm_LV RX7 83 yX2_perform := ⟨tw_409, tw_410, tw_411⟩
theorem tw_408 : Cond.code yX7_noteGap cX7_noteGap 2 none ∈ pm_T := pm_in (List.mem_append_right _ (List.mem_of_getElem? (i := 408) (by decide +kernel))) rfl
theorem my_X7_noteGap : pm_Y yX7_noteGap cX7_noteGap 2 none 1 := ⟨tw_408, tw_8, ⟨by decide, by decide⟩, by decide +kernel⟩
theorem fl_X7_27 : pm_FL RX7 27 6 5 := ⟨RX7, TX7, 6, in_X7, rfl, by decide, Or.inl tw_143⟩
theorem tw_28 : Cond.code yX8_init cX8_init 1 none ∈ pm_T := pm_in (List.mem_append_right _ (List.mem_of_getElem? (i := 28) (by decide +kernel))) rfl
theorem tw_2 : Cond.initialized RX8 ∈ pm_T := pm_in (List.mem_append_right _ (List.mem_of_getElem? (i := 2) (by decide +kernel))) rfl
theorem my_X8_init : pm_Y yX8_init cX8_init 1 none 0 := ⟨tw_28, tw_2, ⟨by decide, by decide⟩, by decide +kernel⟩
theorem tw_29 : Cond.methodLink RX8 1 objectInit ∈ pm_T := pm_in (List.mem_append_right _ (List.mem_of_getElem? (i := 29) (by decide +kernel))) rfl
theorem oi_X8_1 : Cond.methodLink RX8 1 objectInit ∈ pm_T ∧ Cond.instanceMethod objectInit ∈ pm_T ∧ Cond.code objectInit ⟨#[0xb1]⟩ 1 none ∈ pm_T := ⟨tw_29, tw_22, tw_23⟩
theorem tw_30 : Cond.classLink RX8 7 RX2 ∈ pm_T := pm_in (List.mem_append_right _ (List.mem_of_getElem? (i := 30) (by decide +kernel))) rfl
theorem tw_31 : Cond.instantiable RX2 5 ∈ pm_T := pm_in (List.mem_append_right _ (List.mem_of_getElem? (i := 31) (by decide +kernel))) rfl
theorem nw_X8_7 : Cond.classLink RX8 7 RX2 ∈ pm_T ∧ Cond.instantiable RX2 5 ∈ pm_T ∧ Cond.initialized RX2 ∈ pm_T := ⟨tw_30, tw_31, tw_3⟩
theorem tw_32 : Cond.methodLink RX8 9 yX2_init ∈ pm_T := pm_in (List.mem_append_right _ (List.mem_of_getElem? (i := 32) (by decide +kernel))) rfl
theorem tw_33 : Cond.instanceMethod yX2_init ∈ pm_T := pm_in (List.mem_append_right _ (List.mem_of_getElem? (i := 33) (by decide +kernel))) rfl
theorem il_X8_9 : pm_LI RX8 9 yX2_init := ⟨tw_32, tw_33, rfl⟩
theorem tw_95 : Cond.fieldLink RX8 10 (TX8 0).1 (TX8 0).2.1 (TX8 0).2.2.1 ∈ pm_T := pm_in (List.mem_append_right _ (List.mem_of_getElem? (i := 95) (by decide +kernel))) rfl
theorem fp_X8_10 : pm_FP RX8 10 7 0 true (.object "PaleMoor$Moor") := ⟨RX8, TX8, 4, tyX8, in_X8, rfl, by decide, tw_95, tyX8_ok, nmX8, rfl, by decide +kernel, fun _ => rfl⟩
theorem tw_57 : Cond.classLink RX8 16 RX1 ∈ pm_T := pm_in (List.mem_append_right _ (List.mem_of_getElem? (i := 57) (by decide +kernel))) rfl
theorem tw_58 : Cond.instantiable RX1 2 ∈ pm_T := pm_in (List.mem_append_right _ (List.mem_of_getElem? (i := 58) (by decide +kernel))) rfl
theorem nw_X8_16 : Cond.classLink RX8 16 RX1 ∈ pm_T ∧ Cond.instantiable RX1 2 ∈ pm_T ∧ Cond.initialized RX1 ∈ pm_T := ⟨tw_57, tw_58, tw_5⟩
theorem tw_59 : Cond.methodLink RX8 18 yX1_init ∈ pm_T := pm_in (List.mem_append_right _ (List.mem_of_getElem? (i := 59) (by decide +kernel))) rfl
theorem tw_60 : Cond.instanceMethod yX1_init ∈ pm_T := pm_in (List.mem_append_right _ (List.mem_of_getElem? (i := 60) (by decide +kernel))) rfl
theorem il_X8_18 : pm_LI RX8 18 yX1_init := ⟨tw_59, tw_60, rfl⟩
theorem tw_97 : Cond.fieldLink RX8 19 (TX8 1).1 (TX8 1).2.1 (TX8 1).2.2.1 ∈ pm_T := pm_in (List.mem_append_right _ (List.mem_of_getElem? (i := 97) (by decide +kernel))) rfl
theorem fp_X8_19 : pm_FP RX8 19 7 1 true (.object "PaleMoor$Likings") := ⟨RX8, TX8, 4, tyX8, in_X8, rfl, by decide, tw_97, tyX8_ok, nmX8, rfl, by decide +kernel, fun _ => rfl⟩
theorem tw_70 : Cond.classLink RX8 23 RX6 ∈ pm_T := pm_in (List.mem_append_right _ (List.mem_of_getElem? (i := 70) (by decide +kernel))) rfl
theorem tw_71 : Cond.instantiable RX6 4 ∈ pm_T := pm_in (List.mem_append_right _ (List.mem_of_getElem? (i := 71) (by decide +kernel))) rfl
theorem nw_X8_23 : Cond.classLink RX8 23 RX6 ∈ pm_T ∧ Cond.instantiable RX6 4 ∈ pm_T ∧ Cond.initialized RX6 ∈ pm_T := ⟨tw_70, tw_71, tw_6⟩
theorem tw_72 : Cond.methodLink RX8 25 yX6_init ∈ pm_T := pm_in (List.mem_append_right _ (List.mem_of_getElem? (i := 72) (by decide +kernel))) rfl
theorem tw_73 : Cond.instanceMethod yX6_init ∈ pm_T := pm_in (List.mem_append_right _ (List.mem_of_getElem? (i := 73) (by decide +kernel))) rfl
theorem il_X8_25 : pm_LI RX8 25 yX6_init := ⟨tw_72, tw_73, rfl⟩
theorem tw_99 : Cond.fieldLink RX8 26 (TX8 2).1 (TX8 2).2.1 (TX8 2).2.2.1 ∈ pm_T := pm_in (List.mem_append_right _ (List.mem_of_getElem? (i := 99) (by decide +kernel))) rfl
theorem fp_X8_26 : pm_FP RX8 26 7 2 true (.object "PaleMoor$Sights") := ⟨RX8, TX8, 4, tyX8, in_X8, rfl, by decide, tw_99, tyX8_ok, nmX8, rfl, by decide +kernel, fun _ => rfl⟩
theorem tw_101 : Cond.fieldLink RX8 30 (TX8 3).1 (TX8 3).2.1 (TX8 3).2.2.1 ∈ pm_T := pm_in (List.mem_append_right _ (List.mem_of_getElem? (i := 101) (by decide +kernel))) rfl
theorem fp_X8_30 : pm_FP RX8 30 7 3 false .boolean := ⟨RX8, TX8, 4, tyX8, in_X8, rfl, by decide, tw_101, tyX8_ok, nmX8, rfl, by decide +kernel, fun h => by cases h⟩
theorem tw_651 : Cond.code yX8_copyFrom cX8_copyFrom 2 none ∈ pm_T := pm_in (List.mem_append_right _ (List.mem_of_getElem? (i := 651) (by decide +kernel))) rfl
theorem my_X8_copyFrom : pm_Y yX8_copyFrom cX8_copyFrom 2 none 1 := ⟨tw_651, tw_2, ⟨by decide, by decide⟩, by decide +kernel⟩
theorem fl_X8_10 : pm_FL RX8 10 7 0 := ⟨RX8, TX8, 4, in_X8, rfl, by decide, Or.inl tw_95⟩
theorem tw_652 : Cond.methodLink RX8 34 yX2_copyFrom ∈ pm_T := pm_in (List.mem_append_right _ (List.mem_of_getElem? (i := 652) (by decide +kernel))) rfl
theorem vl_X8_34 : pm_LV RX8 34 yX2_copyFrom := ⟨tw_652, tw_333, tw_334⟩
theorem fl_X8_19 : pm_FL RX8 19 7 1 := ⟨RX8, TX8, 4, in_X8, rfl, by decide, Or.inl tw_97⟩
theorem tw_653 : Cond.methodLink RX8 38 yX1_copyFrom ∈ pm_T := pm_in (List.mem_append_right _ (List.mem_of_getElem? (i := 653) (by decide +kernel))) rfl
theorem tw_654 : Cond.instanceMethod yX1_copyFrom ∈ pm_T := pm_in (List.mem_append_right _ (List.mem_of_getElem? (i := 654) (by decide +kernel))) rfl
theorem tw_655 : Cond.selects RX1 yX1_copyFrom yX1_copyFrom ∈ pm_T := pm_in (List.mem_append_right _ (List.mem_of_getElem? (i := 655) (by decide +kernel))) rfl
theorem vl_X8_38 : pm_LV RX8 38 yX1_copyFrom := ⟨tw_653, tw_654, tw_655⟩
theorem fl_X8_26 : pm_FL RX8 26 7 2 := ⟨RX8, TX8, 4, in_X8, rfl, by decide, Or.inl tw_99⟩
theorem tw_658 : Cond.methodLink RX8 41 yX6_copyFrom ∈ pm_T := pm_in (List.mem_append_right _ (List.mem_of_getElem? (i := 658) (by decide +kernel))) rfl
theorem tw_659 : Cond.instanceMethod yX6_copyFrom ∈ pm_T := pm_in (List.mem_append_right _ (List.mem_of_getElem? (i := 659) (by decide +kernel))) rfl
theorem tw_660 : Cond.selects RX6 yX6_copyFrom yX6_copyFrom ∈ pm_T := pm_in (List.mem_append_right _ (List.mem_of_getElem? (i := 660) (by decide +kernel))) rfl
theorem vl_X8_41 : pm_LV RX8 41 yX6_copyFrom := ⟨tw_658, tw_659, tw_660⟩
theorem tw_20 : Cond.code yX9_init cX9_init 1 none ∈ pm_T := pm_in (List.mem_append_right _ (List.mem_of_getElem? (i := 20) (by decide +kernel))) rfl
theorem tw_1 : Cond.initialized RX9 ∈ pm_T := pm_in (List.mem_append_right _ (List.mem_of_getElem? (i := 1) (by decide +kernel))) rfl
theorem my_X9_init : pm_Y yX9_init cX9_init 1 none 0 := ⟨tw_20, tw_1, ⟨by decide, by decide⟩, by decide +kernel⟩
theorem tw_21 : Cond.methodLink RX9 3 objectInit ∈ pm_T := pm_in (List.mem_append_right _ (List.mem_of_getElem? (i := 21) (by decide +kernel))) rfl
theorem oi_X9_3 : Cond.methodLink RX9 3 objectInit ∈ pm_T ∧ Cond.instanceMethod objectInit ∈ pm_T ∧ Cond.code objectInit ⟨#[0xb1]⟩ 1 none ∈ pm_T := ⟨tw_21, tw_22, tw_23⟩
theorem tw_24 : Cond.classLink RX9 9 RX8 ∈ pm_T := pm_in (List.mem_append_right _ (List.mem_of_getElem? (i := 24) (by decide +kernel))) rfl
theorem tw_25 : Cond.instantiable RX8 4 ∈ pm_T := pm_in (List.mem_append_right _ (List.mem_of_getElem? (i := 25) (by decide +kernel))) rfl
theorem nw_X9_9 : Cond.classLink RX9 9 RX8 ∈ pm_T ∧ Cond.instantiable RX8 4 ∈ pm_T ∧ Cond.initialized RX8 ∈ pm_T := ⟨tw_24, tw_25, tw_2⟩
theorem tw_26 : Cond.methodLink RX9 11 yX8_init ∈ pm_T := pm_in (List.mem_append_right _ (List.mem_of_getElem? (i := 26) (by decide +kernel))) rfl
theorem tw_27 : Cond.instanceMethod yX8_init ∈ pm_T := pm_in (List.mem_append_right _ (List.mem_of_getElem? (i := 27) (by decide +kernel))) rfl
theorem il_X9_11 : pm_LI RX9 11 yX8_init := ⟨tw_26, tw_27, rfl⟩
theorem tw_184 : Cond.fieldLink RX9 12 (TX9 0).1 (TX9 0).2.1 (TX9 0).2.2.1 ∈ pm_T := pm_in (List.mem_append_right _ (List.mem_of_getElem? (i := 184) (by decide +kernel))) rfl
theorem fp_X9_12 : pm_FP RX9 12 8 0 true (.object "PaleMoor$Whole") := ⟨RX9, TX9, 8, tyX9, in_X9, rfl, by decide, tw_184, tyX9_ok, nmX9, rfl, by decide +kernel, fun _ => rfl⟩
theorem tw_185 : Cond.fieldLink RX9 16 (TX9 1).1 (TX9 1).2.1 (TX9 1).2.2.1 ∈ pm_T := pm_in (List.mem_append_right _ (List.mem_of_getElem? (i := 185) (by decide +kernel))) rfl
theorem fp_X9_16 : pm_FP RX9 16 8 1 true (.object "PaleMoor$Whole") := ⟨RX9, TX9, 8, tyX9, in_X9, rfl, by decide, tw_185, tyX9_ok, nmX9, rfl, by decide +kernel, fun _ => rfl⟩
theorem tw_186 : Cond.fieldLink RX9 19 (TX9 2).1 (TX9 2).2.1 (TX9 2).2.2.1 ∈ pm_T := pm_in (List.mem_append_right _ (List.mem_of_getElem? (i := 186) (by decide +kernel))) rfl
theorem fp_X9_19 : pm_FP RX9 19 8 2 true (.object "PaleMoor$Whole") := ⟨RX9, TX9, 8, tyX9, in_X9, rfl, by decide, tw_186, tyX9_ok, nmX9, rfl, by decide +kernel, fun _ => rfl⟩
theorem tw_112 : Cond.classLink RX9 22 RX2 ∈ pm_T := pm_in (List.mem_append_right _ (List.mem_of_getElem? (i := 112) (by decide +kernel))) rfl
theorem nw_X9_22 : Cond.classLink RX9 22 RX2 ∈ pm_T ∧ Cond.instantiable RX2 5 ∈ pm_T ∧ Cond.initialized RX2 ∈ pm_T := ⟨tw_112, tw_31, tw_3⟩
theorem tw_113 : Cond.methodLink RX9 24 yX2_init ∈ pm_T := pm_in (List.mem_append_right _ (List.mem_of_getElem? (i := 113) (by decide +kernel))) rfl
theorem il_X9_24 : pm_LI RX9 24 yX2_init := ⟨tw_113, tw_33, rfl⟩
theorem tw_187 : Cond.fieldLink RX9 25 (TX9 3).1 (TX9 3).2.1 (TX9 3).2.2.1 ∈ pm_T := pm_in (List.mem_append_right _ (List.mem_of_getElem? (i := 187) (by decide +kernel))) rfl
theorem fp_X9_25 : pm_FP RX9 25 8 3 true (.object "PaleMoor$Moor") := ⟨RX9, TX9, 8, tyX9, in_X9, rfl, by decide, tw_187, tyX9_ok, nmX9, rfl, by decide +kernel, fun _ => rfl⟩
theorem tw_114 : Cond.classLink RX9 29 RX3 ∈ pm_T := pm_in (List.mem_append_right _ (List.mem_of_getElem? (i := 114) (by decide +kernel))) rfl
theorem tw_115 : Cond.instantiable RX3 2 ∈ pm_T := pm_in (List.mem_append_right _ (List.mem_of_getElem? (i := 115) (by decide +kernel))) rfl
theorem nw_X9_29 : Cond.classLink RX9 29 RX3 ∈ pm_T ∧ Cond.instantiable RX3 2 ∈ pm_T ∧ Cond.initialized RX3 ∈ pm_T := ⟨tw_114, tw_115, tw_7⟩
theorem tw_116 : Cond.methodLink RX9 31 yX3_init ∈ pm_T := pm_in (List.mem_append_right _ (List.mem_of_getElem? (i := 116) (by decide +kernel))) rfl
theorem tw_117 : Cond.instanceMethod yX3_init ∈ pm_T := pm_in (List.mem_append_right _ (List.mem_of_getElem? (i := 117) (by decide +kernel))) rfl
theorem il_X9_31 : pm_LI RX9 31 yX3_init := ⟨tw_116, tw_117, rfl⟩
theorem tw_188 : Cond.fieldLink RX9 32 (TX9 4).1 (TX9 4).2.1 (TX9 4).2.2.1 ∈ pm_T := pm_in (List.mem_append_right _ (List.mem_of_getElem? (i := 188) (by decide +kernel))) rfl
theorem fp_X9_32 : pm_FP RX9 32 8 4 true (.object "PaleMoor$Pad") := ⟨RX9, TX9, 8, tyX9, in_X9, rfl, by decide, tw_188, tyX9_ok, nmX9, rfl, by decide +kernel, fun _ => rfl⟩
theorem tw_127 : Cond.classLink RX9 36 RX7 ∈ pm_T := pm_in (List.mem_append_right _ (List.mem_of_getElem? (i := 127) (by decide +kernel))) rfl
theorem tw_128 : Cond.instantiable RX7 6 ∈ pm_T := pm_in (List.mem_append_right _ (List.mem_of_getElem? (i := 128) (by decide +kernel))) rfl
theorem nw_X9_36 : Cond.classLink RX9 36 RX7 ∈ pm_T ∧ Cond.instantiable RX7 6 ∈ pm_T ∧ Cond.initialized RX7 ∈ pm_T := ⟨tw_127, tw_128, tw_8⟩
theorem tw_129 : Cond.methodLink RX9 38 yX7_init ∈ pm_T := pm_in (List.mem_append_right _ (List.mem_of_getElem? (i := 129) (by decide +kernel))) rfl
theorem tw_130 : Cond.instanceMethod yX7_init ∈ pm_T := pm_in (List.mem_append_right _ (List.mem_of_getElem? (i := 130) (by decide +kernel))) rfl
theorem il_X9_38 : pm_LI RX9 38 yX7_init := ⟨tw_129, tw_130, rfl⟩
theorem tw_189 : Cond.fieldLink RX9 39 (TX9 5).1 (TX9 5).2.1 (TX9 5).2.2.1 ∈ pm_T := pm_in (List.mem_append_right _ (List.mem_of_getElem? (i := 189) (by decide +kernel))) rfl
theorem fp_X9_39 : pm_FP RX9 39 8 5 true (.object "PaleMoor$Weeks") := ⟨RX9, TX9, 8, tyX9, in_X9, rfl, by decide, tw_189, tyX9_ok, nmX9, rfl, by decide +kernel, fun _ => rfl⟩
theorem tw_158 : Cond.classLink RX9 43 RX5 ∈ pm_T := pm_in (List.mem_append_right _ (List.mem_of_getElem? (i := 158) (by decide +kernel))) rfl
theorem tw_159 : Cond.instantiable RX5 2 ∈ pm_T := pm_in (List.mem_append_right _ (List.mem_of_getElem? (i := 159) (by decide +kernel))) rfl
theorem nw_X9_43 : Cond.classLink RX9 43 RX5 ∈ pm_T ∧ Cond.instantiable RX5 2 ∈ pm_T ∧ Cond.initialized RX5 ∈ pm_T := ⟨tw_158, tw_159, tw_9⟩
theorem tw_160 : Cond.methodLink RX9 45 yX5_init ∈ pm_T := pm_in (List.mem_append_right _ (List.mem_of_getElem? (i := 160) (by decide +kernel))) rfl
theorem tw_161 : Cond.instanceMethod yX5_init ∈ pm_T := pm_in (List.mem_append_right _ (List.mem_of_getElem? (i := 161) (by decide +kernel))) rfl
theorem il_X9_45 : pm_LI RX9 45 yX5_init := ⟨tw_160, tw_161, rfl⟩
theorem tw_190 : Cond.fieldLink RX9 46 (TX9 6).1 (TX9 6).2.1 (TX9 6).2.2.1 ∈ pm_T := pm_in (List.mem_append_right _ (List.mem_of_getElem? (i := 190) (by decide +kernel))) rfl
theorem fp_X9_46 : pm_FP RX9 46 8 6 true (.object "PaleMoor$Rounds") := ⟨RX9, TX9, 8, tyX9, in_X9, rfl, by decide, tw_190, tyX9_ok, nmX9, rfl, by decide +kernel, fun _ => rfl⟩
theorem tw_171 : Cond.classLink RX9 50 RX4 ∈ pm_T := pm_in (List.mem_append_right _ (List.mem_of_getElem? (i := 171) (by decide +kernel))) rfl
theorem tw_172 : Cond.instantiable RX4 1 ∈ pm_T := pm_in (List.mem_append_right _ (List.mem_of_getElem? (i := 172) (by decide +kernel))) rfl
theorem nw_X9_50 : Cond.classLink RX9 50 RX4 ∈ pm_T ∧ Cond.instantiable RX4 1 ∈ pm_T ∧ Cond.initialized RX4 ∈ pm_T := ⟨tw_171, tw_172, tw_10⟩
theorem tw_173 : Cond.methodLink RX9 52 yX4_init ∈ pm_T := pm_in (List.mem_append_right _ (List.mem_of_getElem? (i := 173) (by decide +kernel))) rfl
theorem tw_174 : Cond.instanceMethod yX4_init ∈ pm_T := pm_in (List.mem_append_right _ (List.mem_of_getElem? (i := 174) (by decide +kernel))) rfl
theorem il_X9_52 : pm_LI RX9 52 yX4_init := ⟨tw_173, tw_174, rfl⟩
theorem tw_191 : Cond.fieldLink RX9 53 (TX9 7).1 (TX9 7).2.1 (TX9 7).2.2.1 ∈ pm_T := pm_in (List.mem_append_right _ (List.mem_of_getElem? (i := 191) (by decide +kernel))) rfl
theorem fp_X9_53 : pm_FP RX9 53 8 7 true (.object "PaleMoor$Rails") := ⟨RX9, TX9, 8, tyX9, in_X9, rfl, by decide, tw_191, tyX9_ok, nmX9, rfl, by decide +kernel, fun _ => rfl⟩
theorem tw_212 : Cond.code yX9_pale cX9_pale 4 (some .int) ∈ pm_T := pm_in (List.mem_append_right _ (List.mem_of_getElem? (i := 212) (by decide +kernel))) rfl
theorem my_X9_pale : pm_Y yX9_pale cX9_pale 4 (some .int) 3 := ⟨tw_212, tw_1, ⟨by decide, by decide⟩, by decide +kernel⟩
theorem tw_213 : Cond.methodLink RX9 57 yX9_areTwoFarms ∈ pm_T := pm_in (List.mem_append_right _ (List.mem_of_getElem? (i := 213) (by decide +kernel))) rfl
theorem sl_X9_57 : pm_LS RX9 57 yX9_areTwoFarms := ⟨Or.inl tw_213, tw_214⟩
theorem fl_X9_12 : pm_FL RX9 12 8 0 := ⟨RX9, TX9, 8, in_X9, rfl, by decide, Or.inl tw_184⟩
theorem tw_96 : Cond.fieldLinkNest RX9 61 (TX8 0).1 (TX8 0).2.1 (TX8 0).2.2.1 "PaleMoor" ∈ pm_T := pm_in (List.mem_append_right _ (List.mem_of_getElem? (i := 96) (by decide +kernel))) rfl
theorem fl_X9_61 : pm_FL RX9 61 7 0 := ⟨RX8, TX8, 4, in_X8, rfl, by decide, Or.inr ⟨_, tw_96⟩⟩
theorem tw_219 : Cond.methodLink RX9 64 yX2_setStrength ∈ pm_T := pm_in (List.mem_append_right _ (List.mem_of_getElem? (i := 219) (by decide +kernel))) rfl
theorem vl_X9_64 : pm_LV RX9 64 yX2_setStrength := ⟨tw_219, tw_220, tw_221⟩
theorem tw_224 : Cond.methodLink RX9 68 yX2_countPales ∈ pm_T := pm_in (List.mem_append_right _ (List.mem_of_getElem? (i := 224) (by decide +kernel))) rfl
theorem vl_X9_68 : pm_LV RX9 68 yX2_countPales := ⟨tw_224, tw_225, tw_226⟩
theorem tw_235 : Cond.code yX9_road cX9_road 5 (some .int) ∈ pm_T := pm_in (List.mem_append_right _ (List.mem_of_getElem? (i := 235) (by decide +kernel))) rfl
theorem my_X9_road : pm_Y yX9_road cX9_road 5 (some .int) 3 := ⟨tw_235, tw_1, ⟨by decide, by decide⟩, by decide +kernel⟩
theorem tw_236 : Cond.methodLink RX9 72 yX2_milesBetween ∈ pm_T := pm_in (List.mem_append_right _ (List.mem_of_getElem? (i := 236) (by decide +kernel))) rfl
theorem vl_X9_72 : pm_LV RX9 72 yX2_milesBetween := ⟨tw_236, tw_237, tw_238⟩
theorem tw_241 : Cond.methodLink RX9 76 yX2_setMiles ∈ pm_T := pm_in (List.mem_append_right _ (List.mem_of_getElem? (i := 241) (by decide +kernel))) rfl
theorem tw_242 : Cond.instanceMethod yX2_setMiles ∈ pm_T := pm_in (List.mem_append_right _ (List.mem_of_getElem? (i := 242) (by decide +kernel))) rfl
theorem tw_243 : Cond.selects RX2 yX2_setMiles yX2_setMiles ∈ pm_T := pm_in (List.mem_append_right _ (List.mem_of_getElem? (i := 243) (by decide +kernel))) rfl
theorem vl_X9_76 : pm_LV RX9 76 yX2_setMiles := ⟨tw_241, tw_242, tw_243⟩
theorem tw_248 : Cond.code yX9_farm cX9_farm 5 (some .int) ∈ pm_T := pm_in (List.mem_append_right _ (List.mem_of_getElem? (i := 248) (by decide +kernel))) rfl
theorem my_X9_farm : pm_Y yX9_farm cX9_farm 5 (some .int) 3 := ⟨tw_248, tw_1, ⟨by decide, by decide⟩, by decide +kernel⟩
theorem tw_216 : Cond.methodLink RX9 79 yX9_isFarm ∈ pm_T := pm_in (List.mem_append_right _ (List.mem_of_getElem? (i := 216) (by decide +kernel))) rfl
theorem sl_X9_79 : pm_LS RX9 79 yX9_isFarm := ⟨Or.inl tw_216, tw_217⟩
theorem tw_249 : Cond.methodLink RX9 83 yX2_placeOf ∈ pm_T := pm_in (List.mem_append_right _ (List.mem_of_getElem? (i := 249) (by decide +kernel))) rfl
theorem vl_X9_83 : pm_LV RX9 83 yX2_placeOf := ⟨tw_249, tw_250, tw_251⟩
theorem tw_253 : Cond.methodLink RX9 87 yX2_settle ∈ pm_T := pm_in (List.mem_append_right _ (List.mem_of_getElem? (i := 253) (by decide +kernel))) rfl
theorem vl_X9_87 : pm_LV RX9 87 yX2_settle := ⟨tw_253, tw_254, tw_255⟩
theorem tw_260 : Cond.code yX9_likes cX9_likes 5 (some .int) ∈ pm_T := pm_in (List.mem_append_right _ (List.mem_of_getElem? (i := 260) (by decide +kernel))) rfl
theorem my_X9_likes : pm_Y yX9_likes cX9_likes 5 (some .int) 3 := ⟨tw_260, tw_1, ⟨by decide, by decide⟩, by decide +kernel⟩
theorem tw_261 : Cond.methodLink RX9 90 yX9_isOne ∈ pm_T := pm_in (List.mem_append_right _ (List.mem_of_getElem? (i := 261) (by decide +kernel))) rfl
theorem sl_X9_90 : pm_LS RX9 90 yX9_isOne := ⟨Or.inl tw_261, tw_262⟩
theorem tw_267 : Cond.methodLink RX9 93 yX1_isRow ∈ pm_T := pm_in (List.mem_append_right _ (List.mem_of_getElem? (i := 267) (by decide +kernel))) rfl
theorem sl_X9_93 : pm_LS RX9 93 yX1_isRow := ⟨Or.inl tw_267, tw_268⟩
theorem tw_98 : Cond.fieldLinkNest RX9 98 (TX8 1).1 (TX8 1).2.1 (TX8 1).2.2.1 "PaleMoor" ∈ pm_T := pm_in (List.mem_append_right _ (List.mem_of_getElem? (i := 98) (by decide +kernel))) rfl
theorem fl_X9_98 : pm_FL RX9 98 7 1 := ⟨RX8, TX8, 4, in_X8, rfl, by decide, Or.inr ⟨_, tw_98⟩⟩
theorem tw_270 : Cond.methodLink RX9 102 yX1_rowOf ∈ pm_T := pm_in (List.mem_append_right _ (List.mem_of_getElem? (i := 270) (by decide +kernel))) rfl
theorem tw_271 : Cond.instanceMethod yX1_rowOf ∈ pm_T := pm_in (List.mem_append_right _ (List.mem_of_getElem? (i := 271) (by decide +kernel))) rfl
theorem tw_272 : Cond.selects RX1 yX1_rowOf yX1_rowOf ∈ pm_T := pm_in (List.mem_append_right _ (List.mem_of_getElem? (i := 272) (by decide +kernel))) rfl
theorem vl_X9_102 : pm_LV RX9 102 yX1_rowOf := ⟨tw_270, tw_271, tw_272⟩
theorem tw_275 : Cond.methodLink RX9 105 yX1_setRow ∈ pm_T := pm_in (List.mem_append_right _ (List.mem_of_getElem? (i := 275) (by decide +kernel))) rfl
theorem tw_276 : Cond.instanceMethod yX1_setRow ∈ pm_T := pm_in (List.mem_append_right _ (List.mem_of_getElem? (i := 276) (by decide +kernel))) rfl
theorem tw_277 : Cond.selects RX1 yX1_setRow yX1_setRow ∈ pm_T := pm_in (List.mem_append_right _ (List.mem_of_getElem? (i := 277) (by decide +kernel))) rfl
theorem vl_X9_105 : pm_LV RX9 105 yX1_setRow := ⟨tw_275, tw_276, tw_277⟩
theorem tw_287 : Cond.code yX9_say cX9_say 2 (some .int) ∈ pm_T := pm_in (List.mem_append_right _ (List.mem_of_getElem? (i := 287) (by decide +kernel))) rfl
theorem my_X9_say : pm_Y yX9_say cX9_say 2 (some .int) 1 := ⟨tw_287, tw_1, ⟨by decide, by decide⟩, by decide +kernel⟩
theorem fl_X9_32 : pm_FL RX9 32 8 4 := ⟨RX9, TX9, 8, in_X9, rfl, by decide, Or.inl tw_188⟩
theorem tw_288 : Cond.methodLink RX9 108 yX3_add ∈ pm_T := pm_in (List.mem_append_right _ (List.mem_of_getElem? (i := 288) (by decide +kernel))) rfl
theorem tw_289 : Cond.instanceMethod yX3_add ∈ pm_T := pm_in (List.mem_append_right _ (List.mem_of_getElem? (i := 289) (by decide +kernel))) rfl
theorem tw_290 : Cond.selects RX3 yX3_add yX3_add ∈ pm_T := pm_in (List.mem_append_right _ (List.mem_of_getElem? (i := 290) (by decide +kernel))) rfl
theorem vl_X9_108 : pm_LV RX9 108 yX3_add := ⟨tw_288, tw_289, tw_290⟩
theorem tw_292 : Cond.methodLink RX9 111 yX3_size ∈ pm_T := pm_in (List.mem_append_right _ (List.mem_of_getElem? (i := 292) (by decide +kernel))) rfl
theorem vl_X9_111 : pm_LV RX9 111 yX3_size := ⟨tw_292, tw_293, tw_294⟩
theorem tw_299 : Cond.code yX9_wipe cX9_wipe 2 (some .int) ∈ pm_T := pm_in (List.mem_append_right _ (List.mem_of_getElem? (i := 299) (by decide +kernel))) rfl
theorem my_X9_wipe : pm_Y yX9_wipe cX9_wipe 2 (some .int) 0 := ⟨tw_299, tw_1, ⟨by decide, by decide⟩, by decide +kernel⟩
theorem tw_300 : Cond.methodLink RX9 114 yX3_clear ∈ pm_T := pm_in (List.mem_append_right _ (List.mem_of_getElem? (i := 300) (by decide +kernel))) rfl
theorem tw_301 : Cond.instanceMethod yX3_clear ∈ pm_T := pm_in (List.mem_append_right _ (List.mem_of_getElem? (i := 301) (by decide +kernel))) rfl
theorem tw_302 : Cond.selects RX3 yX3_clear yX3_clear ∈ pm_T := pm_in (List.mem_append_right _ (List.mem_of_getElem? (i := 302) (by decide +kernel))) rfl
theorem vl_X9_114 : pm_LV RX9 114 yX3_clear := ⟨tw_300, tw_301, tw_302⟩
theorem tw_307 : Cond.code yX9_fault cX9_fault 1 (some .int) ∈ pm_T := pm_in (List.mem_append_right _ (List.mem_of_getElem? (i := 307) (by decide +kernel))) rfl
theorem my_X9_fault : pm_Y yX9_fault cX9_fault 1 (some .int) 0 := ⟨tw_307, tw_1, ⟨by decide, by decide⟩, by decide +kernel⟩
theorem tw_308 : Cond.methodLink RX9 117 yX3_faultPlace ∈ pm_T := pm_in (List.mem_append_right _ (List.mem_of_getElem? (i := 308) (by decide +kernel))) rfl
theorem vl_X9_117 : pm_LV RX9 117 yX3_faultPlace := ⟨tw_308, tw_309, tw_310⟩
theorem tw_322 : Cond.code yX9_judge cX9_judge 2 (some .int) ∈ pm_T := pm_in (List.mem_append_right _ (List.mem_of_getElem? (i := 322) (by decide +kernel))) rfl
theorem my_X9_judge : pm_Y yX9_judge cX9_judge 2 (some .int) 1 := ⟨tw_322, tw_1, ⟨by decide, by decide⟩, by decide +kernel⟩
theorem tw_264 : Cond.methodLink RX9 120 yX9_isZeroOrOne ∈ pm_T := pm_in (List.mem_append_right _ (List.mem_of_getElem? (i := 264) (by decide +kernel))) rfl
theorem tw_265 : Cond.static yX9_isZeroOrOne ∈ pm_T := pm_in (List.mem_append_right _ (List.mem_of_getElem? (i := 265) (by decide +kernel))) rfl
theorem sl_X9_120 : pm_LS RX9 120 yX9_isZeroOrOne := ⟨Or.inl tw_264, tw_265⟩
theorem fl_X9_39 : pm_FL RX9 39 8 5 := ⟨RX9, TX9, 8, in_X9, rfl, by decide, Or.inl tw_189⟩
theorem fl_X9_25 : pm_FL RX9 25 8 3 := ⟨RX9, TX9, 8, in_X9, rfl, by decide, Or.inl tw_187⟩
theorem tw_323 : Cond.methodLink RX9 123 yX7_canBe ∈ pm_T := pm_in (List.mem_append_right _ (List.mem_of_getElem? (i := 323) (by decide +kernel))) rfl
theorem tw_324 : Cond.instanceMethod yX7_canBe ∈ pm_T := pm_in (List.mem_append_right _ (List.mem_of_getElem? (i := 324) (by decide +kernel))) rfl
theorem tw_325 : Cond.selects RX7 yX7_canBe yX7_canBe ∈ pm_T := pm_in (List.mem_append_right _ (List.mem_of_getElem? (i := 325) (by decide +kernel))) rfl
theorem vl_X9_123 : pm_LV RX9 123 yX7_canBe := ⟨tw_323, tw_324, tw_325⟩
theorem tw_136 : Cond.fieldLinkNest RX9 127 (TX7 1).1 (TX7 1).2.1 (TX7 1).2.2.1 "PaleMoor" ∈ pm_T := pm_in (List.mem_append_right _ (List.mem_of_getElem? (i := 136) (by decide +kernel))) rfl
theorem fl_X9_127 : pm_FL RX9 127 6 1 := ⟨RX7, TX7, 6, in_X7, rfl, by decide, Or.inr ⟨_, tw_136⟩⟩
theorem tw_138 : Cond.fieldLinkNest RX9 131 (TX7 2).1 (TX7 2).2.1 (TX7 2).2.2.1 "PaleMoor" ∈ pm_T := pm_in (List.mem_append_right _ (List.mem_of_getElem? (i := 138) (by decide +kernel))) rfl
theorem fl_X9_131 : pm_FL RX9 131 6 2 := ⟨RX7, TX7, 6, in_X7, rfl, by decide, Or.inr ⟨_, tw_138⟩⟩
theorem tw_440 : Cond.code yX9_done cX9_done 1 (some .int) ∈ pm_T := pm_in (List.mem_append_right _ (List.mem_of_getElem? (i := 440) (by decide +kernel))) rfl
theorem my_X9_done : pm_Y yX9_done cX9_done 1 (some .int) 0 := ⟨tw_440, tw_1, ⟨by decide, by decide⟩, by decide +kernel⟩
theorem tw_441 : Cond.methodLink RX9 134 yX2_copyFrom ∈ pm_T := pm_in (List.mem_append_right _ (List.mem_of_getElem? (i := 441) (by decide +kernel))) rfl
theorem vl_X9_134 : pm_LV RX9 134 yX2_copyFrom := ⟨tw_441, tw_333, tw_334⟩
theorem tw_134 : Cond.fieldLinkNest RX9 138 (TX7 0).1 (TX7 0).2.1 (TX7 0).2.2.1 "PaleMoor" ∈ pm_T := pm_in (List.mem_append_right _ (List.mem_of_getElem? (i := 134) (by decide +kernel))) rfl
theorem fl_X9_138 : pm_FL RX9 138 6 0 := ⟨RX7, TX7, 6, in_X7, rfl, by decide, Or.inr ⟨_, tw_134⟩⟩
theorem tw_445 : Cond.code yX9_behind cX9_behind 3 (some .int) ∈ pm_T := pm_in (List.mem_append_right _ (List.mem_of_getElem? (i := 445) (by decide +kernel))) rfl
theorem my_X9_behind : pm_Y yX9_behind cX9_behind 3 (some .int) 2 := ⟨tw_445, tw_1, ⟨by decide, by decide⟩, by decide +kernel⟩
theorem tw_446 : Cond.methodLink RX9 141 yX2_strengthBetween ∈ pm_T := pm_in (List.mem_append_right _ (List.mem_of_getElem? (i := 446) (by decide +kernel))) rfl
theorem vl_X9_141 : pm_LV RX9 141 yX2_strengthBetween := ⟨tw_446, tw_378, tw_379⟩
theorem tw_450 : Cond.code yX9_goes cX9_goes 3 (some .int) ∈ pm_T := pm_in (List.mem_append_right _ (List.mem_of_getElem? (i := 450) (by decide +kernel))) rfl
theorem my_X9_goes : pm_Y yX9_goes cX9_goes 3 (some .int) 2 := ⟨tw_450, tw_1, ⟨by decide, by decide⟩, by decide +kernel⟩
theorem tw_451 : Cond.methodLink RX9 144 yX2_cowsOf ∈ pm_T := pm_in (List.mem_append_right _ (List.mem_of_getElem? (i := 451) (by decide +kernel))) rfl
theorem vl_X9_144 : pm_LV RX9 144 yX2_cowsOf := ⟨tw_451, tw_414, tw_415⟩
theorem tw_455 : Cond.code yX9_then cX9_then 2 (some .int) ∈ pm_T := pm_in (List.mem_append_right _ (List.mem_of_getElem? (i := 455) (by decide +kernel))) rfl
theorem my_X9_then : pm_Y yX9_then cX9_then 2 (some .int) 1 := ⟨tw_455, tw_1, ⟨by decide, by decide⟩, by decide +kernel⟩
theorem tw_456 : Cond.methodLink RX9 147 yX2_countGaps ∈ pm_T := pm_in (List.mem_append_right _ (List.mem_of_getElem? (i := 456) (by decide +kernel))) rfl
theorem tw_457 : Cond.instanceMethod yX2_countGaps ∈ pm_T := pm_in (List.mem_append_right _ (List.mem_of_getElem? (i := 457) (by decide +kernel))) rfl
theorem tw_458 : Cond.selects RX2 yX2_countGaps yX2_countGaps ∈ pm_T := pm_in (List.mem_append_right _ (List.mem_of_getElem? (i := 458) (by decide +kernel))) rfl
theorem vl_X9_147 : pm_LV RX9 147 yX2_countGaps := ⟨tw_456, tw_457, tw_458⟩
theorem tw_140 : Cond.fieldLinkNest RX9 150 (TX7 3).1 (TX7 3).2.1 (TX7 3).2.2.1 "PaleMoor" ∈ pm_T := pm_in (List.mem_append_right _ (List.mem_of_getElem? (i := 140) (by decide +kernel))) rfl
theorem fl_X9_150 : pm_FL RX9 150 6 3 := ⟨RX7, TX7, 6, in_X7, rfl, by decide, Or.inr ⟨_, tw_140⟩⟩
theorem tw_460 : Cond.methodLink RX9 153 yX2_awayBits ∈ pm_T := pm_in (List.mem_append_right _ (List.mem_of_getElem? (i := 460) (by decide +kernel))) rfl
theorem tw_461 : Cond.instanceMethod yX2_awayBits ∈ pm_T := pm_in (List.mem_append_right _ (List.mem_of_getElem? (i := 461) (by decide +kernel))) rfl
theorem tw_462 : Cond.selects RX2 yX2_awayBits yX2_awayBits ∈ pm_T := pm_in (List.mem_append_right _ (List.mem_of_getElem? (i := 462) (by decide +kernel))) rfl
theorem vl_X9_153 : pm_LV RX9 153 yX2_awayBits := ⟨tw_460, tw_461, tw_462⟩
theorem tw_44 : Cond.fieldLinkNest RX9 156 (TX2 4).1 (TX2 4).2.1 (TX2 4).2.2.1 "PaleMoor" ∈ pm_T := pm_in (List.mem_append_right _ (List.mem_of_getElem? (i := 44) (by decide +kernel))) rfl
theorem fl_X9_156 : pm_FL RX9 156 1 4 := ⟨RX2, TX2, 5, in_X2, rfl, by decide, Or.inr ⟨_, tw_44⟩⟩
theorem tw_142 : Cond.fieldLinkNest RX9 159 (TX7 4).1 (TX7 4).2.1 (TX7 4).2.2.1 "PaleMoor" ∈ pm_T := pm_in (List.mem_append_right _ (List.mem_of_getElem? (i := 142) (by decide +kernel))) rfl
theorem fl_X9_159 : pm_FL RX9 159 6 4 := ⟨RX7, TX7, 6, in_X7, rfl, by decide, Or.inr ⟨_, tw_142⟩⟩
theorem tw_144 : Cond.fieldLinkNest RX9 162 (TX7 5).1 (TX7 5).2.1 (TX7 5).2.2.1 "PaleMoor" ∈ pm_T := pm_in (List.mem_append_right _ (List.mem_of_getElem? (i := 144) (by decide +kernel))) rfl
theorem fl_X9_162 : pm_FL RX9 162 6 5 := ⟨RX7, TX7, 6, in_X7, rfl, by decide, Or.inr ⟨_, tw_144⟩⟩
theorem tw_467 : Cond.code yX9_round cX9_round 3 (some .int) ∈ pm_T := pm_in (List.mem_append_right _ (List.mem_of_getElem? (i := 467) (by decide +kernel))) rfl
theorem my_X9_round : pm_Y yX9_round cX9_round 3 (some .int) 2 := ⟨tw_467, tw_1, ⟨by decide, by decide⟩, by decide +kernel⟩
theorem fl_X9_46 : pm_FL RX9 46 8 6 := ⟨RX9, TX9, 8, in_X9, rfl, by decide, Or.inl tw_190⟩
theorem tw_468 : Cond.methodLink RX9 165 yX5_measure ∈ pm_T := pm_in (List.mem_append_right _ (List.mem_of_getElem? (i := 468) (by decide +kernel))) rfl
theorem tw_469 : Cond.instanceMethod yX5_measure ∈ pm_T := pm_in (List.mem_append_right _ (List.mem_of_getElem? (i := 469) (by decide +kernel))) rfl
theorem tw_470 : Cond.selects RX5 yX5_measure yX5_measure ∈ pm_T := pm_in (List.mem_append_right _ (List.mem_of_getElem? (i := 470) (by decide +kernel))) rfl
theorem vl_X9_165 : pm_LV RX9 165 yX5_measure := ⟨tw_468, tw_469, tw_470⟩
theorem tw_477 : Cond.methodLink RX9 168 yX5_between ∈ pm_T := pm_in (List.mem_append_right _ (List.mem_of_getElem? (i := 477) (by decide +kernel))) rfl
theorem tw_478 : Cond.instanceMethod yX5_between ∈ pm_T := pm_in (List.mem_append_right _ (List.mem_of_getElem? (i := 478) (by decide +kernel))) rfl
theorem tw_479 : Cond.selects RX5 yX5_between yX5_between ∈ pm_T := pm_in (List.mem_append_right _ (List.mem_of_getElem? (i := 479) (by decide +kernel))) rfl
theorem vl_X9_168 : pm_LV RX9 168 yX5_between := ⟨tw_477, tw_478, tw_479⟩
theorem tw_488 : Cond.code yX9_mends cX9_mends 2 (some .int) ∈ pm_T := pm_in (List.mem_append_right _ (List.mem_of_getElem? (i := 488) (by decide +kernel))) rfl
theorem my_X9_mends : pm_Y yX9_mends cX9_mends 2 (some .int) 1 := ⟨tw_488, tw_1, ⟨by decide, by decide⟩, by decide +kernel⟩
theorem tw_489 : Cond.methodLink RX9 171 yX2_toBeMended ∈ pm_T := pm_in (List.mem_append_right _ (List.mem_of_getElem? (i := 489) (by decide +kernel))) rfl
theorem tw_490 : Cond.instanceMethod yX2_toBeMended ∈ pm_T := pm_in (List.mem_append_right _ (List.mem_of_getElem? (i := 490) (by decide +kernel))) rfl
theorem tw_491 : Cond.selects RX2 yX2_toBeMended yX2_toBeMended ∈ pm_T := pm_in (List.mem_append_right _ (List.mem_of_getElem? (i := 491) (by decide +kernel))) rfl
theorem vl_X9_171 : pm_LV RX9 171 yX2_toBeMended := ⟨tw_489, tw_490, tw_491⟩
theorem tw_493 : Cond.methodLink RX9 174 yX5_tour ∈ pm_T := pm_in (List.mem_append_right _ (List.mem_of_getElem? (i := 493) (by decide +kernel))) rfl
theorem tw_494 : Cond.instanceMethod yX5_tour ∈ pm_T := pm_in (List.mem_append_right _ (List.mem_of_getElem? (i := 494) (by decide +kernel))) rfl
theorem tw_495 : Cond.selects RX5 yX5_tour yX5_tour ∈ pm_T := pm_in (List.mem_append_right _ (List.mem_of_getElem? (i := 495) (by decide +kernel))) rfl
theorem vl_X9_174 : pm_LV RX9 174 yX5_tour := ⟨tw_493, tw_494, tw_495⟩
theorem tw_510 : Cond.code yX9_steady cX9_steady 1 (some .int) ∈ pm_T := pm_in (List.mem_append_right _ (List.mem_of_getElem? (i := 510) (by decide +kernel))) rfl
theorem my_X9_steady : pm_Y yX9_steady cX9_steady 1 (some .int) 0 := ⟨tw_510, tw_1, ⟨by decide, by decide⟩, by decide +kernel⟩
theorem tw_511 : Cond.methodLink RX9 177 yX1_countSteady ∈ pm_T := pm_in (List.mem_append_right _ (List.mem_of_getElem? (i := 511) (by decide +kernel))) rfl
theorem tw_512 : Cond.instanceMethod yX1_countSteady ∈ pm_T := pm_in (List.mem_append_right _ (List.mem_of_getElem? (i := 512) (by decide +kernel))) rfl
theorem tw_513 : Cond.selects RX1 yX1_countSteady yX1_countSteady ∈ pm_T := pm_in (List.mem_append_right _ (List.mem_of_getElem? (i := 513) (by decide +kernel))) rfl
theorem vl_X9_177 : pm_LV RX9 177 yX1_countSteady := ⟨tw_511, tw_512, tw_513⟩
theorem tw_539 : Cond.code yX9_wed cX9_wed 4 (some .int) ∈ pm_T := pm_in (List.mem_append_right _ (List.mem_of_getElem? (i := 539) (by decide +kernel))) rfl
theorem my_X9_wed : pm_Y yX9_wed cX9_wed 4 (some .int) 3 := ⟨tw_539, tw_1, ⟨by decide, by decide⟩, by decide +kernel⟩
theorem tw_540 : Cond.methodLink RX9 180 yX1_bestSteady ∈ pm_T := pm_in (List.mem_append_right _ (List.mem_of_getElem? (i := 540) (by decide +kernel))) rfl
theorem tw_541 : Cond.instanceMethod yX1_bestSteady ∈ pm_T := pm_in (List.mem_append_right _ (List.mem_of_getElem? (i := 541) (by decide +kernel))) rfl
theorem tw_542 : Cond.selects RX1 yX1_bestSteady yX1_bestSteady ∈ pm_T := pm_in (List.mem_append_right _ (List.mem_of_getElem? (i := 542) (by decide +kernel))) rfl
theorem vl_X9_180 : pm_LV RX9 180 yX1_bestSteady := ⟨tw_540, tw_541, tw_542⟩
theorem tw_548 : Cond.methodLink RX9 183 yX1_partnerIn ∈ pm_T := pm_in (List.mem_append_right _ (List.mem_of_getElem? (i := 548) (by decide +kernel))) rfl
theorem sl_X9_183 : pm_LS RX9 183 yX1_partnerIn := ⟨Or.inl tw_548, tw_534⟩
theorem tw_552 : Cond.code yX9_seen cX9_seen 4 (some .int) ∈ pm_T := pm_in (List.mem_append_right _ (List.mem_of_getElem? (i := 552) (by decide +kernel))) rfl
theorem my_X9_seen : pm_Y yX9_seen cX9_seen 4 (some .int) 3 := ⟨tw_552, tw_1, ⟨by decide, by decide⟩, by decide +kernel⟩
theorem tw_100 : Cond.fieldLinkNest RX9 187 (TX8 2).1 (TX8 2).2.1 (TX8 2).2.2.1 "PaleMoor" ∈ pm_T := pm_in (List.mem_append_right _ (List.mem_of_getElem? (i := 100) (by decide +kernel))) rfl
theorem fl_X9_187 : pm_FL RX9 187 7 2 := ⟨RX8, TX8, 4, in_X8, rfl, by decide, Or.inr ⟨_, tw_100⟩⟩
theorem tw_553 : Cond.methodLink RX9 191 yX6_add ∈ pm_T := pm_in (List.mem_append_right _ (List.mem_of_getElem? (i := 553) (by decide +kernel))) rfl
theorem tw_554 : Cond.instanceMethod yX6_add ∈ pm_T := pm_in (List.mem_append_right _ (List.mem_of_getElem? (i := 554) (by decide +kernel))) rfl
theorem tw_555 : Cond.selects RX6 yX6_add yX6_add ∈ pm_T := pm_in (List.mem_append_right _ (List.mem_of_getElem? (i := 555) (by decide +kernel))) rfl
theorem vl_X9_191 : pm_LV RX9 191 yX6_add := ⟨tw_553, tw_554, tw_555⟩
theorem tw_85 : Cond.fieldLinkNest RX9 196 (TX6 3).1 (TX6 3).2.1 (TX6 3).2.2.1 "PaleMoor" ∈ pm_T := pm_in (List.mem_append_right _ (List.mem_of_getElem? (i := 85) (by decide +kernel))) rfl
theorem fl_X9_196 : pm_FL RX9 196 5 3 := ⟨RX6, TX6, 4, in_X6, rfl, by decide, Or.inr ⟨_, tw_85⟩⟩
theorem tw_566 : Cond.code yX9_forget cX9_forget 2 (some .int) ∈ pm_T := pm_in (List.mem_append_right _ (List.mem_of_getElem? (i := 566) (by decide +kernel))) rfl
theorem my_X9_forget : pm_Y yX9_forget cX9_forget 2 (some .int) 0 := ⟨tw_566, tw_1, ⟨by decide, by decide⟩, by decide +kernel⟩
theorem tw_567 : Cond.methodLink RX9 199 yX6_clear ∈ pm_T := pm_in (List.mem_append_right _ (List.mem_of_getElem? (i := 567) (by decide +kernel))) rfl
theorem vl_X9_199 : pm_LV RX9 199 yX6_clear := ⟨tw_567, tw_77, tw_78⟩
theorem tw_571 : Cond.code yX9_posts cX9_posts 2 (some .int) ∈ pm_T := pm_in (List.mem_append_right _ (List.mem_of_getElem? (i := 571) (by decide +kernel))) rfl
theorem my_X9_posts : pm_Y yX9_posts cX9_posts 2 (some .int) 1 := ⟨tw_571, tw_1, ⟨by decide, by decide⟩, by decide +kernel⟩
theorem tw_83 : Cond.fieldLinkNest RX9 200 (TX6 2).1 (TX6 2).2.1 (TX6 2).2.2.1 "PaleMoor" ∈ pm_T := pm_in (List.mem_append_right _ (List.mem_of_getElem? (i := 83) (by decide +kernel))) rfl
theorem fl_X9_200 : pm_FL RX9 200 5 2 := ⟨RX6, TX6, 4, in_X6, rfl, by decide, Or.inr ⟨_, tw_83⟩⟩
theorem tw_572 : Cond.methodLink RX9 203 yX6_caseAt ∈ pm_T := pm_in (List.mem_append_right _ (List.mem_of_getElem? (i := 572) (by decide +kernel))) rfl
theorem tw_573 : Cond.instanceMethod yX6_caseAt ∈ pm_T := pm_in (List.mem_append_right _ (List.mem_of_getElem? (i := 573) (by decide +kernel))) rfl
theorem tw_574 : Cond.selects RX6 yX6_caseAt yX6_caseAt ∈ pm_T := pm_in (List.mem_append_right _ (List.mem_of_getElem? (i := 574) (by decide +kernel))) rfl
theorem vl_X9_203 : pm_LV RX9 203 yX6_caseAt := ⟨tw_572, tw_573, tw_574⟩
theorem tw_579 : Cond.code yX9_ask cX9_ask 3 (some .int) ∈ pm_T := pm_in (List.mem_append_right _ (List.mem_of_getElem? (i := 579) (by decide +kernel))) rfl
theorem my_X9_ask : pm_Y yX9_ask cX9_ask 3 (some .int) 1 := ⟨tw_579, tw_1, ⟨by decide, by decide⟩, by decide +kernel⟩
theorem tw_580 : Cond.methodLink RX9 206 yX6_bestQuestion ∈ pm_T := pm_in (List.mem_append_right _ (List.mem_of_getElem? (i := 580) (by decide +kernel))) rfl
theorem tw_581 : Cond.instanceMethod yX6_bestQuestion ∈ pm_T := pm_in (List.mem_append_right _ (List.mem_of_getElem? (i := 581) (by decide +kernel))) rfl
theorem tw_582 : Cond.selects RX6 yX6_bestQuestion yX6_bestQuestion ∈ pm_T := pm_in (List.mem_append_right _ (List.mem_of_getElem? (i := 582) (by decide +kernel))) rfl
theorem vl_X9_206 : pm_LV RX9 206 yX6_bestQuestion := ⟨tw_580, tw_581, tw_582⟩
theorem tw_590 : Cond.methodLink RX9 209 yX6_leftAtMost ∈ pm_T := pm_in (List.mem_append_right _ (List.mem_of_getElem? (i := 590) (by decide +kernel))) rfl
theorem tw_591 : Cond.instanceMethod yX6_leftAtMost ∈ pm_T := pm_in (List.mem_append_right _ (List.mem_of_getElem? (i := 591) (by decide +kernel))) rfl
theorem tw_592 : Cond.selects RX6 yX6_leftAtMost yX6_leftAtMost ∈ pm_T := pm_in (List.mem_append_right _ (List.mem_of_getElem? (i := 592) (by decide +kernel))) rfl
theorem vl_X9_209 : pm_LV RX9 209 yX6_leftAtMost := ⟨tw_590, tw_591, tw_592⟩
theorem tw_597 : Cond.code yX9_heaps cX9_heaps 4 (some .int) ∈ pm_T := pm_in (List.mem_append_right _ (List.mem_of_getElem? (i := 597) (by decide +kernel))) rfl
theorem my_X9_heaps : pm_Y yX9_heaps cX9_heaps 4 (some .int) 2 := ⟨tw_597, tw_1, ⟨by decide, by decide⟩, by decide +kernel⟩
theorem fl_X9_53 : pm_FL RX9 53 8 7 := ⟨RX9, TX9, 8, in_X9, rfl, by decide, Or.inl tw_191⟩
theorem tw_598 : Cond.methodLink RX9 212 yX4_winningLess ∈ pm_T := pm_in (List.mem_append_right _ (List.mem_of_getElem? (i := 598) (by decide +kernel))) rfl
theorem tw_599 : Cond.instanceMethod yX4_winningLess ∈ pm_T := pm_in (List.mem_append_right _ (List.mem_of_getElem? (i := 599) (by decide +kernel))) rfl
theorem tw_600 : Cond.selects RX4 yX4_winningLess yX4_winningLess ∈ pm_T := pm_in (List.mem_append_right _ (List.mem_of_getElem? (i := 600) (by decide +kernel))) rfl
theorem vl_X9_212 : pm_LV RX9 212 yX4_winningLess := ⟨tw_598, tw_599, tw_600⟩
theorem tw_605 : Cond.code yX9_gust cX9_gust 9 (some .long) ∈ pm_T := pm_in (List.mem_append_right _ (List.mem_of_getElem? (i := 605) (by decide +kernel))) rfl
theorem my_X9_gust : pm_Y yX9_gust cX9_gust 9 (some .long) 5 := ⟨tw_605, tw_1, ⟨by decide, by decide⟩, by decide +kernel⟩
theorem tw_606 : Cond.constantLong RX9 215 (-1000000000000000002) ∈ pm_T := pm_in (List.mem_append_right _ (List.mem_of_getElem? (i := 606) (by decide +kernel))) rfl
theorem kc_X9_215 : Cond.constantLong RX9 215 (-1000000000000000002) ∈ pm_T := tw_606
theorem tw_607 : Cond.methodLink RX9 217 yX0_waysOfJust ∈ pm_T := pm_in (List.mem_append_right _ (List.mem_of_getElem? (i := 607) (by decide +kernel))) rfl
theorem sl_X9_217 : pm_LS RX9 217 yX0_waysOfJust := ⟨Or.inl tw_607, tw_608⟩
theorem tw_613 : Cond.methodLink RX9 223 yX0_sumOfStrongest ∈ pm_T := pm_in (List.mem_append_right _ (List.mem_of_getElem? (i := 613) (by decide +kernel))) rfl
theorem tw_614 : Cond.static yX0_sumOfStrongest ∈ pm_T := pm_in (List.mem_append_right _ (List.mem_of_getElem? (i := 614) (by decide +kernel))) rfl
theorem sl_X9_223 : pm_LS RX9 223 yX0_sumOfStrongest := ⟨Or.inl tw_613, tw_614⟩
theorem tw_617 : Cond.methodLink RX9 226 yX0_power ∈ pm_T := pm_in (List.mem_append_right _ (List.mem_of_getElem? (i := 617) (by decide +kernel))) rfl
theorem sl_X9_226 : pm_LS RX9 226 yX0_power := ⟨Or.inl tw_617, tw_611⟩
theorem tw_618 : Cond.methodLink RX9 229 yX0_partInLowestTerms ∈ pm_T := pm_in (List.mem_append_right _ (List.mem_of_getElem? (i := 618) (by decide +kernel))) rfl
theorem tw_619 : Cond.static yX0_partInLowestTerms ∈ pm_T := pm_in (List.mem_append_right _ (List.mem_of_getElem? (i := 619) (by decide +kernel))) rfl
theorem sl_X9_229 : pm_LS RX9 229 yX0_partInLowestTerms := ⟨Or.inl tw_618, tw_619⟩
theorem tw_627 : Cond.code yX9_year cX9_year 5 (some .int) ∈ pm_T := pm_in (List.mem_append_right _ (List.mem_of_getElem? (i := 627) (by decide +kernel))) rfl
theorem my_X9_year : pm_Y yX9_year cX9_year 5 (some .int) 3 := ⟨tw_627, tw_1, ⟨by decide, by decide⟩, by decide +kernel⟩
theorem tw_628 : Cond.methodLink RX9 233 yX2_drawActs ∈ pm_T := pm_in (List.mem_append_right _ (List.mem_of_getElem? (i := 628) (by decide +kernel))) rfl
theorem tw_629 : Cond.instanceMethod yX2_drawActs ∈ pm_T := pm_in (List.mem_append_right _ (List.mem_of_getElem? (i := 629) (by decide +kernel))) rfl
theorem tw_630 : Cond.selects RX2 yX2_drawActs yX2_drawActs ∈ pm_T := pm_in (List.mem_append_right _ (List.mem_of_getElem? (i := 630) (by decide +kernel))) rfl
theorem vl_X9_233 : pm_LV RX9 233 yX2_drawActs := ⟨tw_628, tw_629, tw_630⟩
theorem tw_638 : Cond.methodLink RX9 237 yJ6_bitCount_0f7a4 ∈ pm_T := pm_in (List.mem_append_right _ (List.mem_of_getElem? (i := 638) (by decide +kernel))) rfl
theorem tw_639 : Cond.static yJ6_bitCount_0f7a4 ∈ pm_T := pm_in (List.mem_append_right _ (List.mem_of_getElem? (i := 639) (by decide +kernel))) rfl
theorem sl_X9_237 : pm_LS RX9 237 yJ6_bitCount_0f7a4 := ⟨Or.inl tw_638, tw_639⟩
theorem tw_647 : Cond.code yX9_image cX9_image 3 (some .int) ∈ pm_T := pm_in (List.mem_append_right _ (List.mem_of_getElem? (i := 647) (by decide +kernel))) rfl
theorem my_X9_image : pm_Y yX9_image cX9_image 3 (some .int) 1 := ⟨tw_647, tw_1, ⟨by decide, by decide⟩, by decide +kernel⟩
theorem fl_X9_16 : pm_FL RX9 16 8 1 := ⟨RX9, TX9, 8, in_X9, rfl, by decide, Or.inl tw_185⟩
theorem fl_X9_19 : pm_FL RX9 19 8 2 := ⟨RX9, TX9, 8, in_X9, rfl, by decide, Or.inl tw_186⟩
theorem tw_648 : Cond.methodLink RX9 242 yX8_copyFrom ∈ pm_T := pm_in (List.mem_append_right _ (List.mem_of_getElem? (i := 648) (by decide +kernel))) rfl
theorem tw_649 : Cond.instanceMethod yX8_copyFrom ∈ pm_T := pm_in (List.mem_append_right _ (List.mem_of_getElem? (i := 649) (by decide +kernel))) rfl
theorem tw_650 : Cond.selects RX8 yX8_copyFrom yX8_copyFrom ∈ pm_T := pm_in (List.mem_append_right _ (List.mem_of_getElem? (i := 650) (by decide +kernel))) rfl
theorem vl_X9_242 : pm_LV RX9 242 yX8_copyFrom := ⟨tw_648, tw_649, tw_650⟩
theorem tw_102 : Cond.fieldLinkNest RX9 245 (TX8 3).1 (TX8 3).2.1 (TX8 3).2.2.1 "PaleMoor" ∈ pm_T := pm_in (List.mem_append_right _ (List.mem_of_getElem? (i := 102) (by decide +kernel))) rfl
theorem fp_X9_245 : pm_FPn RX9 245 7 3 .boolean := ⟨RX8, TX8, 4, tyX8, "PaleMoor", in_X8, rfl, by decide, tw_102, tyX8_ok, nmX8, rfl, by decide +kernel⟩
theorem tw_666 : Cond.code yX9_restore cX9_restore 3 (some .int) ∈ pm_T := pm_in (List.mem_append_right _ (List.mem_of_getElem? (i := 666) (by decide +kernel))) rfl
theorem my_X9_restore : pm_Y yX9_restore cX9_restore 3 (some .int) 1 := ⟨tw_666, tw_1, ⟨by decide, by decide⟩, by decide +kernel⟩
theorem fl_X9_245 : pm_FL RX9 245 7 3 := ⟨RX8, TX8, 4, in_X8, rfl, by decide, Or.inr ⟨_, tw_102⟩⟩
theorem tw_670 : Cond.code yX9_told cX9_told 2 (some .int) ∈ pm_T := pm_in (List.mem_append_right _ (List.mem_of_getElem? (i := 670) (by decide +kernel))) rfl
theorem my_X9_told : pm_Y yX9_told cX9_told 2 (some .int) 1 := ⟨tw_670, tw_1, ⟨by decide, by decide⟩, by decide +kernel⟩
theorem tw_671 : Cond.methodLink RX9 249 yX9_toldOfAll ∈ pm_T := pm_in (List.mem_append_right _ (List.mem_of_getElem? (i := 671) (by decide +kernel))) rfl
theorem tw_673 : Cond.instanceMethod yX9_toldOfAll ∈ pm_T := pm_in (List.mem_append_right _ (List.mem_of_getElem? (i := 673) (by decide +kernel))) rfl
theorem ts_21 : Cond.selects RX9 yX9_toldOfAll yX9_toldOfAll ∈ pm_T := pm_in (List.mem_append_left _ (List.mem_of_getElem? (i := 21) (by decide +kernel))) rfl
theorem vl_X9_249 : pm_LV RX9 249 yX9_toldOfAll := ⟨tw_671, tw_673, ts_21⟩
theorem tw_675 : Cond.methodLink RX9 252 yX9_toldOfFarm ∈ pm_T := pm_in (List.mem_append_right _ (List.mem_of_getElem? (i := 675) (by decide +kernel))) rfl
theorem tw_677 : Cond.instanceMethod yX9_toldOfFarm ∈ pm_T := pm_in (List.mem_append_right _ (List.mem_of_getElem? (i := 677) (by decide +kernel))) rfl
theorem ts_22 : Cond.selects RX9 yX9_toldOfFarm yX9_toldOfFarm ∈ pm_T := pm_in (List.mem_append_left _ (List.mem_of_getElem? (i := 22) (by decide +kernel))) rfl
theorem vl_X9_252 : pm_LV RX9 252 yX9_toldOfFarm := ⟨tw_675, tw_677, ts_22⟩
theorem tw_679 : Cond.methodLink RX9 255 yX9_toldOfOne ∈ pm_T := pm_in (List.mem_append_right _ (List.mem_of_getElem? (i := 679) (by decide +kernel))) rfl
theorem tw_681 : Cond.instanceMethod yX9_toldOfOne ∈ pm_T := pm_in (List.mem_append_right _ (List.mem_of_getElem? (i := 681) (by decide +kernel))) rfl
theorem ts_23 : Cond.selects RX9 yX9_toldOfOne yX9_toldOfOne ∈ pm_T := pm_in (List.mem_append_left _ (List.mem_of_getElem? (i := 23) (by decide +kernel))) rfl
theorem vl_X9_255 : pm_LV RX9 255 yX9_toldOfOne := ⟨tw_679, tw_681, ts_23⟩
theorem tw_683 : Cond.methodLink RX9 258 yX9_toldOfPair ∈ pm_T := pm_in (List.mem_append_right _ (List.mem_of_getElem? (i := 683) (by decide +kernel))) rfl
theorem tw_685 : Cond.instanceMethod yX9_toldOfPair ∈ pm_T := pm_in (List.mem_append_right _ (List.mem_of_getElem? (i := 685) (by decide +kernel))) rfl
theorem ts_24 : Cond.selects RX9 yX9_toldOfPair yX9_toldOfPair ∈ pm_T := pm_in (List.mem_append_left _ (List.mem_of_getElem? (i := 24) (by decide +kernel))) rfl
theorem vl_X9_258 : pm_LV RX9 258 yX9_toldOfPair := ⟨tw_683, tw_685, ts_24⟩
theorem tw_674 : Cond.code yX9_toldOfAll cX9_toldOfAll 2 (some .int) ∈ pm_T := pm_in (List.mem_append_right _ (List.mem_of_getElem? (i := 674) (by decide +kernel))) rfl
theorem my_X9_toldOfAll : pm_Y yX9_toldOfAll cX9_toldOfAll 2 (some .int) 1 := ⟨tw_674, tw_1, ⟨by decide, by decide⟩, by decide +kernel⟩
theorem tw_678 : Cond.code yX9_toldOfFarm cX9_toldOfFarm 3 (some .int) ∈ pm_T := pm_in (List.mem_append_right _ (List.mem_of_getElem? (i := 678) (by decide +kernel))) rfl
theorem my_X9_toldOfFarm : pm_Y yX9_toldOfFarm cX9_toldOfFarm 3 (some .int) 2 := ⟨tw_678, tw_1, ⟨by decide, by decide⟩, by decide +kernel⟩
theorem tw_682 : Cond.code yX9_toldOfOne cX9_toldOfOne 3 (some .int) ∈ pm_T := pm_in (List.mem_append_right _ (List.mem_of_getElem? (i := 682) (by decide +kernel))) rfl
theorem my_X9_toldOfOne : pm_Y yX9_toldOfOne cX9_toldOfOne 3 (some .int) 2 := ⟨tw_682, tw_1, ⟨by decide, by decide⟩, by decide +kernel⟩
theorem tw_686 : Cond.code yX9_toldOfPair cX9_toldOfPair 4 (some .int) ∈ pm_T := pm_in (List.mem_append_right _ (List.mem_of_getElem? (i := 686) (by decide +kernel))) rfl
theorem my_X9_toldOfPair : pm_Y yX9_toldOfPair cX9_toldOfPair 4 (some .int) 3 := ⟨tw_686, tw_1, ⟨by decide, by decide⟩, by decide +kernel⟩
theorem tw_218 : Cond.code yX9_isFarm cX9_isFarm 1 (some .boolean) ∈ pm_T := pm_in (List.mem_append_right _ (List.mem_of_getElem? (i := 218) (by decide +kernel))) rfl
theorem my_X9_isFarm : pm_Y yX9_isFarm cX9_isFarm 1 (some .boolean) 1 := ⟨tw_218, tw_1, ⟨by decide, by decide⟩, by decide +kernel⟩
theorem tw_215 : Cond.code yX9_areTwoFarms cX9_areTwoFarms 2 (some .boolean) ∈ pm_T := pm_in (List.mem_append_right _ (List.mem_of_getElem? (i := 215) (by decide +kernel))) rfl
theorem my_X9_areTwoFarms : pm_Y yX9_areTwoFarms cX9_areTwoFarms 2 (some .boolean) 2 := ⟨tw_215, tw_1, ⟨by decide, by decide⟩, by decide +kernel⟩
theorem tw_263 : Cond.code yX9_isOne cX9_isOne 2 (some .boolean) ∈ pm_T := pm_in (List.mem_append_right _ (List.mem_of_getElem? (i := 263) (by decide +kernel))) rfl
theorem my_X9_isOne : pm_Y yX9_isOne cX9_isOne 2 (some .boolean) 2 := ⟨tw_263, tw_1, ⟨by decide, by decide⟩, by decide +kernel⟩
theorem tw_266 : Cond.code yX9_isZeroOrOne cX9_isZeroOrOne 1 (some .boolean) ∈ pm_T := pm_in (List.mem_append_right _ (List.mem_of_getElem? (i := 266) (by decide +kernel))) rfl
theorem my_X9_isZeroOrOne : pm_Y yX9_isZeroOrOne cX9_isZeroOrOne 1 (some .boolean) 1 := ⟨tw_266, tw_1, ⟨by decide, by decide⟩, by decide +kernel⟩
theorem tw_691 : Cond.code yX10_init cX10_init 2 none ∈ pm_T := pm_in (List.mem_append_right _ (List.mem_of_getElem? (i := 691) (by decide +kernel))) rfl
theorem tw_11 : Cond.initialized RX10 ∈ pm_T := pm_in (List.mem_append_right _ (List.mem_of_getElem? (i := 11) (by decide +kernel))) rfl
theorem my_X10_init : pm_Y yX10_init cX10_init 2 none 0 := ⟨tw_691, tw_11, ⟨by decide, by decide⟩, by decide +kernel⟩
theorem tw_692 : Cond.methodLink RX10 1 objectInit ∈ pm_T := pm_in (List.mem_append_right _ (List.mem_of_getElem? (i := 692) (by decide +kernel))) rfl
theorem oi_X10_1 : Cond.methodLink RX10 1 objectInit ∈ pm_T ∧ Cond.instanceMethod objectInit ∈ pm_T ∧ Cond.code objectInit ⟨#[0xb1]⟩ 1 none ∈ pm_T := ⟨tw_692, tw_22, tw_23⟩
theorem tw_693 : Cond.fieldLink RX10 7 (TX10 0).1 (TX10 0).2.1 (TX10 0).2.2.1 ∈ pm_T := pm_in (List.mem_append_right _ (List.mem_of_getElem? (i := 693) (by decide +kernel))) rfl
theorem fp_X10_7 : pm_FP RX10 7 9 0 true (.array .int) := ⟨RX10, TX10, 24, tyX10, in_X10, rfl, by decide, tw_693, tyX10_ok, nmX10, rfl, by decide +kernel, fun _ => rfl⟩
theorem tw_694 : Cond.fieldLink RX10 13 (TX10 1).1 (TX10 1).2.1 (TX10 1).2.2.1 ∈ pm_T := pm_in (List.mem_append_right _ (List.mem_of_getElem? (i := 694) (by decide +kernel))) rfl
theorem fp_X10_13 : pm_FP RX10 13 9 1 true (.array .int) := ⟨RX10, TX10, 24, tyX10, in_X10, rfl, by decide, tw_694, tyX10_ok, nmX10, rfl, by decide +kernel, fun _ => rfl⟩
theorem tw_695 : Cond.fieldLink RX10 16 (TX10 2).1 (TX10 2).2.1 (TX10 2).2.2.1 ∈ pm_T := pm_in (List.mem_append_right _ (List.mem_of_getElem? (i := 695) (by decide +kernel))) rfl
theorem fp_X10_16 : pm_FP RX10 16 9 2 true (.array .int) := ⟨RX10, TX10, 24, tyX10, in_X10, rfl, by decide, tw_695, tyX10_ok, nmX10, rfl, by decide +kernel, fun _ => rfl⟩
theorem tw_696 : Cond.fieldLink RX10 19 (TX10 3).1 (TX10 3).2.1 (TX10 3).2.2.1 ∈ pm_T := pm_in (List.mem_append_right _ (List.mem_of_getElem? (i := 696) (by decide +kernel))) rfl
theorem fp_X10_19 : pm_FP RX10 19 9 3 true (.array .int) := ⟨RX10, TX10, 24, tyX10, in_X10, rfl, by decide, tw_696, tyX10_ok, nmX10, rfl, by decide +kernel, fun _ => rfl⟩
theorem tw_698 : Cond.fieldLink RX10 22 (TX10 5).1 (TX10 5).2.1 (TX10 5).2.2.1 ∈ pm_T := pm_in (List.mem_append_right _ (List.mem_of_getElem? (i := 698) (by decide +kernel))) rfl
theorem fp_X10_22 : pm_FP RX10 22 9 5 true (.array .int) := ⟨RX10, TX10, 24, tyX10, in_X10, rfl, by decide, tw_698, tyX10_ok, nmX10, rfl, by decide +kernel, fun _ => rfl⟩
theorem tw_700 : Cond.fieldLink RX10 25 (TX10 7).1 (TX10 7).2.1 (TX10 7).2.2.1 ∈ pm_T := pm_in (List.mem_append_right _ (List.mem_of_getElem? (i := 700) (by decide +kernel))) rfl
theorem fp_X10_25 : pm_FP RX10 25 9 7 true (.array .int) := ⟨RX10, TX10, 24, tyX10, in_X10, rfl, by decide, tw_700, tyX10_ok, nmX10, rfl, by decide +kernel, fun _ => rfl⟩
theorem tw_704 : Cond.fieldLink RX10 28 (TX10 11).1 (TX10 11).2.1 (TX10 11).2.2.1 ∈ pm_T := pm_in (List.mem_append_right _ (List.mem_of_getElem? (i := 704) (by decide +kernel))) rfl
theorem fp_X10_28 : pm_FP RX10 28 9 11 true (.array .int) := ⟨RX10, TX10, 24, tyX10, in_X10, rfl, by decide, tw_704, tyX10_ok, nmX10, rfl, by decide +kernel, fun _ => rfl⟩
theorem tw_707 : Cond.fieldLink RX10 31 (TX10 14).1 (TX10 14).2.1 (TX10 14).2.2.1 ∈ pm_T := pm_in (List.mem_append_right _ (List.mem_of_getElem? (i := 707) (by decide +kernel))) rfl
theorem fp_X10_31 : pm_FP RX10 31 9 14 true (.array .int) := ⟨RX10, TX10, 24, tyX10, in_X10, rfl, by decide, tw_707, tyX10_ok, nmX10, rfl, by decide +kernel, fun _ => rfl⟩
theorem tw_708 : Cond.fieldLink RX10 34 (TX10 15).1 (TX10 15).2.1 (TX10 15).2.2.1 ∈ pm_T := pm_in (List.mem_append_right _ (List.mem_of_getElem? (i := 708) (by decide +kernel))) rfl
theorem fp_X10_34 : pm_FP RX10 34 9 15 true (.array .int) := ⟨RX10, TX10, 24, tyX10, in_X10, rfl, by decide, tw_708, tyX10_ok, nmX10, rfl, by decide +kernel, fun _ => rfl⟩
theorem tw_709 : Cond.fieldLink RX10 37 (TX10 16).1 (TX10 16).2.1 (TX10 16).2.2.1 ∈ pm_T := pm_in (List.mem_append_right _ (List.mem_of_getElem? (i := 709) (by decide +kernel))) rfl
theorem fp_X10_37 : pm_FP RX10 37 9 16 true (.array .int) := ⟨RX10, TX10, 24, tyX10, in_X10, rfl, by decide, tw_709, tyX10_ok, nmX10, rfl, by decide +kernel, fun _ => rfl⟩
theorem tw_710 : Cond.fieldLink RX10 40 (TX10 17).1 (TX10 17).2.1 (TX10 17).2.2.1 ∈ pm_T := pm_in (List.mem_append_right _ (List.mem_of_getElem? (i := 710) (by decide +kernel))) rfl
theorem fp_X10_40 : pm_FP RX10 40 9 17 true (.array .int) := ⟨RX10, TX10, 24, tyX10, in_X10, rfl, by decide, tw_710, tyX10_ok, nmX10, rfl, by decide +kernel, fun _ => rfl⟩
theorem tw_711 : Cond.fieldLink RX10 43 (TX10 18).1 (TX10 18).2.1 (TX10 18).2.2.1 ∈ pm_T := pm_in (List.mem_append_right _ (List.mem_of_getElem? (i := 711) (by decide +kernel))) rfl
theorem fp_X10_43 : pm_FP RX10 43 9 18 true (.array .int) := ⟨RX10, TX10, 24, tyX10, in_X10, rfl, by decide, tw_711, tyX10_ok, nmX10, rfl, by decide +kernel, fun _ => rfl⟩
theorem tw_712 : Cond.fieldLink RX10 46 (TX10 19).1 (TX10 19).2.1 (TX10 19).2.2.1 ∈ pm_T := pm_in (List.mem_append_right _ (List.mem_of_getElem? (i := 712) (by decide +kernel))) rfl
theorem fp_X10_46 : pm_FP RX10 46 9 19 true (.array .int) := ⟨RX10, TX10, 24, tyX10, in_X10, rfl, by decide, tw_712, tyX10_ok, nmX10, rfl, by decide +kernel, fun _ => rfl⟩
theorem tw_713 : Cond.fieldLink RX10 49 (TX10 20).1 (TX10 20).2.1 (TX10 20).2.2.1 ∈ pm_T := pm_in (List.mem_append_right _ (List.mem_of_getElem? (i := 713) (by decide +kernel))) rfl
theorem fp_X10_49 : pm_FP RX10 49 9 20 true (.array .int) := ⟨RX10, TX10, 24, tyX10, in_X10, rfl, by decide, tw_713, tyX10_ok, nmX10, rfl, by decide +kernel, fun _ => rfl⟩
theorem tw_714 : Cond.fieldLink RX10 52 (TX10 21).1 (TX10 21).2.1 (TX10 21).2.2.1 ∈ pm_T := pm_in (List.mem_append_right _ (List.mem_of_getElem? (i := 714) (by decide +kernel))) rfl
theorem fp_X10_52 : pm_FP RX10 52 9 21 true (.array .boolean) := ⟨RX10, TX10, 24, tyX10, in_X10, rfl, by decide, tw_714, tyX10_ok, nmX10, rfl, by decide +kernel, fun _ => rfl⟩
theorem tw_715 : Cond.fieldLink RX10 56 (TX10 22).1 (TX10 22).2.1 (TX10 22).2.2.1 ∈ pm_T := pm_in (List.mem_append_right _ (List.mem_of_getElem? (i := 715) (by decide +kernel))) rfl
theorem fp_X10_56 : pm_FP RX10 56 9 22 true (.array .int) := ⟨RX10, TX10, 24, tyX10, in_X10, rfl, by decide, tw_715, tyX10_ok, nmX10, rfl, by decide +kernel, fun _ => rfl⟩
theorem tw_716 : Cond.fieldLink RX10 59 (TX10 23).1 (TX10 23).2.1 (TX10 23).2.2.1 ∈ pm_T := pm_in (List.mem_append_right _ (List.mem_of_getElem? (i := 716) (by decide +kernel))) rfl
theorem fp_X10_59 : pm_FP RX10 59 9 23 true (.array .boolean) := ⟨RX10, TX10, 24, tyX10, in_X10, rfl, by decide, tw_716, tyX10_ok, nmX10, rfl, by decide +kernel, fun _ => rfl⟩
theorem fl_X10_7 : pm_FL RX10 7 9 0 := ⟨RX10, TX10, 24, in_X10, rfl, by decide, Or.inl tw_693⟩
theorem fl_X10_19 : pm_FL RX10 19 9 3 := ⟨RX10, TX10, 24, in_X10, rfl, by decide, Or.inl tw_696⟩
theorem tw_776 : Cond.code yX10_in cX10_in 3 (some .boolean) ∈ pm_T := pm_in (List.mem_append_right _ (List.mem_of_getElem? (i := 776) (by decide +kernel))) rfl
theorem my_X10_in : pm_Y yX10_in cX10_in 3 (some .boolean) 3 := ⟨tw_776, tw_11, ⟨by decide, by decide⟩, by decide +kernel⟩
theorem tw_895 : Cond.code yX10_has cX10_has 2 (some .boolean) ∈ pm_T := pm_in (List.mem_append_right _ (List.mem_of_getElem? (i := 895) (by decide +kernel))) rfl
theorem my_X10_has : pm_Y yX10_has cX10_has 2 (some .boolean) 2 := ⟨tw_895, tw_11, ⟨by decide, by decide⟩, by decide +kernel⟩
theorem tw_773 : Cond.code yX10_isFarm cX10_isFarm 1 (some .boolean) ∈ pm_T := pm_in (List.mem_append_right _ (List.mem_of_getElem? (i := 773) (by decide +kernel))) rfl
theorem my_X10_isFarm : pm_Y yX10_isFarm cX10_isFarm 1 (some .boolean) 1 := ⟨tw_773, tw_11, ⟨by decide, by decide⟩, by decide +kernel⟩
theorem tw_774 : Cond.methodLink RX10 62 yX10_in ∈ pm_T := pm_in (List.mem_append_right _ (List.mem_of_getElem? (i := 774) (by decide +kernel))) rfl
theorem tw_775 : Cond.static yX10_in ∈ pm_T := pm_in (List.mem_append_right _ (List.mem_of_getElem? (i := 775) (by decide +kernel))) rfl
theorem sl_X10_62 : pm_LS RX10 62 yX10_in := ⟨Or.inl tw_774, tw_775⟩
theorem tw_770 : Cond.code yX10_pale cX10_pale 4 (some .int) ∈ pm_T := pm_in (List.mem_append_right _ (List.mem_of_getElem? (i := 770) (by decide +kernel))) rfl
theorem my_X10_pale : pm_Y yX10_pale cX10_pale 4 (some .int) 3 := ⟨tw_770, tw_11, ⟨by decide, by decide⟩, by decide +kernel⟩
theorem tw_771 : Cond.methodLink RX10 66 yX10_isFarm ∈ pm_T := pm_in (List.mem_append_right _ (List.mem_of_getElem? (i := 771) (by decide +kernel))) rfl
theorem tw_772 : Cond.static yX10_isFarm ∈ pm_T := pm_in (List.mem_append_right _ (List.mem_of_getElem? (i := 772) (by decide +kernel))) rfl
theorem sl_X10_66 : pm_LS RX10 66 yX10_isFarm := ⟨Or.inl tw_771, tw_772⟩
theorem tw_777 : Cond.methodLink RX10 70 yX10_asNow ∈ pm_T := pm_in (List.mem_append_right _ (List.mem_of_getElem? (i := 777) (by decide +kernel))) rfl
theorem tw_779 : Cond.instanceMethod yX10_asNow ∈ pm_T := pm_in (List.mem_append_right _ (List.mem_of_getElem? (i := 779) (by decide +kernel))) rfl
theorem ts_25 : Cond.selects RX10 yX10_asNow yX10_asNow ∈ pm_T := pm_in (List.mem_append_left _ (List.mem_of_getElem? (i := 25) (by decide +kernel))) rfl
theorem vl_X10_70 : pm_LV RX10 70 yX10_asNow := ⟨tw_777, tw_779, ts_25⟩
theorem tw_781 : Cond.methodLink RX10 73 yX10_palesOf ∈ pm_T := pm_in (List.mem_append_right _ (List.mem_of_getElem? (i := 781) (by decide +kernel))) rfl
theorem tw_783 : Cond.instanceMethod yX10_palesOf ∈ pm_T := pm_in (List.mem_append_right _ (List.mem_of_getElem? (i := 783) (by decide +kernel))) rfl
theorem ts_26 : Cond.selects RX10 yX10_palesOf yX10_palesOf ∈ pm_T := pm_in (List.mem_append_left _ (List.mem_of_getElem? (i := 26) (by decide +kernel))) rfl
theorem vl_X10_73 : pm_LV RX10 73 yX10_palesOf := ⟨tw_781, tw_783, ts_26⟩
theorem tw_788 : Cond.code yX10_road cX10_road 5 (some .int) ∈ pm_T := pm_in (List.mem_append_right _ (List.mem_of_getElem? (i := 788) (by decide +kernel))) rfl
theorem my_X10_road : pm_Y yX10_road cX10_road 5 (some .int) 3 := ⟨tw_788, tw_11, ⟨by decide, by decide⟩, by decide +kernel⟩
theorem fl_X10_16 : pm_FL RX10 16 9 2 := ⟨RX10, TX10, 24, in_X10, rfl, by decide, Or.inl tw_695⟩
theorem tw_792 : Cond.code yX10_farm cX10_farm 5 (some .int) ∈ pm_T := pm_in (List.mem_append_right _ (List.mem_of_getElem? (i := 792) (by decide +kernel))) rfl
theorem my_X10_farm : pm_Y yX10_farm cX10_farm 5 (some .int) 3 := ⟨tw_792, tw_11, ⟨by decide, by decide⟩, by decide +kernel⟩
theorem tw_800 : Cond.code yX10_rowOf cX10_rowOf 5 (some .int) ∈ pm_T := pm_in (List.mem_append_right _ (List.mem_of_getElem? (i := 800) (by decide +kernel))) rfl
theorem my_X10_rowOf : pm_Y yX10_rowOf cX10_rowOf 5 (some .int) 2 := ⟨tw_800, tw_11, ⟨by decide, by decide⟩, by decide +kernel⟩
theorem tw_796 : Cond.code yX10_likes cX10_likes 8 (some .int) ∈ pm_T := pm_in (List.mem_append_right _ (List.mem_of_getElem? (i := 796) (by decide +kernel))) rfl
theorem my_X10_likes : pm_Y yX10_likes cX10_likes 8 (some .int) 3 := ⟨tw_796, tw_11, ⟨by decide, by decide⟩, by decide +kernel⟩
theorem tw_797 : Cond.methodLink RX10 77 yX10_rowOf ∈ pm_T := pm_in (List.mem_append_right _ (List.mem_of_getElem? (i := 797) (by decide +kernel))) rfl
theorem tw_799 : Cond.instanceMethod yX10_rowOf ∈ pm_T := pm_in (List.mem_append_right _ (List.mem_of_getElem? (i := 799) (by decide +kernel))) rfl
theorem ts_27 : Cond.selects RX10 yX10_rowOf yX10_rowOf ∈ pm_T := pm_in (List.mem_append_left _ (List.mem_of_getElem? (i := 27) (by decide +kernel))) rfl
theorem vl_X10_77 : pm_LV RX10 77 yX10_rowOf := ⟨tw_797, tw_799, ts_27⟩
theorem tw_804 : Cond.code yX10_say cX10_say 2 (some .int) ∈ pm_T := pm_in (List.mem_append_right _ (List.mem_of_getElem? (i := 804) (by decide +kernel))) rfl
theorem my_X10_say : pm_Y yX10_say cX10_say 2 (some .int) 1 := ⟨tw_804, tw_11, ⟨by decide, by decide⟩, by decide +kernel⟩
theorem tw_699 : Cond.fieldLink RX10 81 (TX10 6).1 (TX10 6).2.1 (TX10 6).2.2.1 ∈ pm_T := pm_in (List.mem_append_right _ (List.mem_of_getElem? (i := 699) (by decide +kernel))) rfl
theorem fl_X10_81 : pm_FL RX10 81 9 6 := ⟨RX10, TX10, 24, in_X10, rfl, by decide, Or.inl tw_699⟩
theorem fl_X10_25 : pm_FL RX10 25 9 7 := ⟨RX10, TX10, 24, in_X10, rfl, by decide, Or.inl tw_700⟩
theorem fp_X10_81 : pm_FP RX10 81 9 6 false .int := ⟨RX10, TX10, 24, tyX10, in_X10, rfl, by decide, tw_699, tyX10_ok, nmX10, rfl, by decide +kernel, fun h => by cases h⟩
theorem tw_808 : Cond.code yX10_wipe cX10_wipe 2 (some .int) ∈ pm_T := pm_in (List.mem_append_right _ (List.mem_of_getElem? (i := 808) (by decide +kernel))) rfl
theorem my_X10_wipe : pm_Y yX10_wipe cX10_wipe 2 (some .int) 0 := ⟨tw_808, tw_11, ⟨by decide, by decide⟩, by decide +kernel⟩
theorem tw_819 : Cond.code yX10_step cX10_step 3 (some .int) ∈ pm_T := pm_in (List.mem_append_right _ (List.mem_of_getElem? (i := 819) (by decide +kernel))) rfl
theorem my_X10_step : pm_Y yX10_step cX10_step 3 (some .int) 2 := ⟨tw_819, tw_11, ⟨by decide, by decide⟩, by decide +kernel⟩
theorem tw_816 : Cond.code yX10_faultOf cX10_faultOf 3 (some .int) ∈ pm_T := pm_in (List.mem_append_right _ (List.mem_of_getElem? (i := 816) (by decide +kernel))) rfl
theorem my_X10_faultOf : pm_Y yX10_faultOf cX10_faultOf 3 (some .int) 0 := ⟨tw_816, tw_11, ⟨by decide, by decide⟩, by decide +kernel⟩
theorem tw_817 : Cond.methodLink RX10 85 yX10_step ∈ pm_T := pm_in (List.mem_append_right _ (List.mem_of_getElem? (i := 817) (by decide +kernel))) rfl
theorem tw_818 : Cond.static yX10_step ∈ pm_T := pm_in (List.mem_append_right _ (List.mem_of_getElem? (i := 818) (by decide +kernel))) rfl
theorem sl_X10_85 : pm_LS RX10 85 yX10_step := ⟨Or.inl tw_817, tw_818⟩
theorem tw_812 : Cond.code yX10_fault cX10_fault 1 (some .int) ∈ pm_T := pm_in (List.mem_append_right _ (List.mem_of_getElem? (i := 812) (by decide +kernel))) rfl
theorem my_X10_fault : pm_Y yX10_fault cX10_fault 1 (some .int) 0 := ⟨tw_812, tw_11, ⟨by decide, by decide⟩, by decide +kernel⟩
theorem tw_813 : Cond.methodLink RX10 88 yX10_faultOf ∈ pm_T := pm_in (List.mem_append_right _ (List.mem_of_getElem? (i := 813) (by decide +kernel))) rfl
theorem tw_815 : Cond.instanceMethod yX10_faultOf ∈ pm_T := pm_in (List.mem_append_right _ (List.mem_of_getElem? (i := 815) (by decide +kernel))) rfl
theorem ts_28 : Cond.selects RX10 yX10_faultOf yX10_faultOf ∈ pm_T := pm_in (List.mem_append_left _ (List.mem_of_getElem? (i := 28) (by decide +kernel))) rfl
theorem vl_X10_88 : pm_LV RX10 88 yX10_faultOf := ⟨tw_813, tw_815, ts_28⟩
theorem tw_780 : Cond.code yX10_asNow cX10_asNow 2 none ∈ pm_T := pm_in (List.mem_append_right _ (List.mem_of_getElem? (i := 780) (by decide +kernel))) rfl
theorem my_X10_asNow : pm_Y yX10_asNow cX10_asNow 2 none 0 := ⟨tw_780, tw_11, ⟨by decide, by decide⟩, by decide +kernel⟩
theorem fl_X10_13 : pm_FL RX10 13 9 1 := ⟨RX10, TX10, 24, in_X10, rfl, by decide, Or.inl tw_694⟩
theorem tw_701 : Cond.fieldLink RX10 92 (TX10 8).1 (TX10 8).2.1 (TX10 8).2.2.1 ∈ pm_T := pm_in (List.mem_append_right _ (List.mem_of_getElem? (i := 701) (by decide +kernel))) rfl
theorem fp_X10_92 : pm_FP RX10 92 9 8 false .int := ⟨RX10, TX10, 24, tyX10, in_X10, rfl, by decide, tw_701, tyX10_ok, nmX10, rfl, by decide +kernel, fun h => by cases h⟩
theorem tw_702 : Cond.fieldLink RX10 95 (TX10 9).1 (TX10 9).2.1 (TX10 9).2.2.1 ∈ pm_T := pm_in (List.mem_append_right _ (List.mem_of_getElem? (i := 702) (by decide +kernel))) rfl
theorem fp_X10_95 : pm_FP RX10 95 9 9 false .int := ⟨RX10, TX10, 24, tyX10, in_X10, rfl, by decide, tw_702, tyX10_ok, nmX10, rfl, by decide +kernel, fun h => by cases h⟩
theorem tw_703 : Cond.fieldLink RX10 98 (TX10 10).1 (TX10 10).2.1 (TX10 10).2.2.1 ∈ pm_T := pm_in (List.mem_append_right _ (List.mem_of_getElem? (i := 703) (by decide +kernel))) rfl
theorem fp_X10_98 : pm_FP RX10 98 9 10 false .int := ⟨RX10, TX10, 24, tyX10, in_X10, rfl, by decide, tw_703, tyX10_ok, nmX10, rfl, by decide +kernel, fun h => by cases h⟩
theorem tw_784 : Cond.code yX10_palesOf cX10_palesOf 4 (some .int) ∈ pm_T := pm_in (List.mem_append_right _ (List.mem_of_getElem? (i := 784) (by decide +kernel))) rfl
theorem my_X10_palesOf : pm_Y yX10_palesOf cX10_palesOf 4 (some .int) 1 := ⟨tw_784, tw_11, ⟨by decide, by decide⟩, by decide +kernel⟩
theorem tw_879 : Cond.code yX10_away cX10_away 3 (some .int) ∈ pm_T := pm_in (List.mem_append_right _ (List.mem_of_getElem? (i := 879) (by decide +kernel))) rfl
theorem my_X10_away : pm_Y yX10_away cX10_away 3 (some .int) 0 := ⟨tw_879, tw_11, ⟨by decide, by decide⟩, by decide +kernel⟩
theorem tw_847 : Cond.code yX10_lay cX10_lay 4 none ∈ pm_T := pm_in (List.mem_append_right _ (List.mem_of_getElem? (i := 847) (by decide +kernel))) rfl
theorem my_X10_lay : pm_Y yX10_lay cX10_lay 4 none 3 := ⟨tw_847, tw_11, ⟨by decide, by decide⟩, by decide +kernel⟩
theorem tw_855 : Cond.code yX10_go cX10_go 4 (some .int) ∈ pm_T := pm_in (List.mem_append_right _ (List.mem_of_getElem? (i := 855) (by decide +kernel))) rfl
theorem my_X10_go : pm_Y yX10_go cX10_go 4 (some .int) 2 := ⟨tw_855, tw_11, ⟨by decide, by decide⟩, by decide +kernel⟩
theorem fl_X10_92 : pm_FL RX10 92 9 8 := ⟨RX10, TX10, 24, in_X10, rfl, by decide, Or.inl tw_701⟩
theorem tw_843 : Cond.code yX10_mend cX10_mend 4 (some .int) ∈ pm_T := pm_in (List.mem_append_right _ (List.mem_of_getElem? (i := 843) (by decide +kernel))) rfl
theorem my_X10_mend : pm_Y yX10_mend cX10_mend 4 (some .int) 1 := ⟨tw_843, tw_11, ⟨by decide, by decide⟩, by decide +kernel⟩
theorem tw_844 : Cond.methodLink RX10 101 yX10_lay ∈ pm_T := pm_in (List.mem_append_right _ (List.mem_of_getElem? (i := 844) (by decide +kernel))) rfl
theorem tw_846 : Cond.instanceMethod yX10_lay ∈ pm_T := pm_in (List.mem_append_right _ (List.mem_of_getElem? (i := 846) (by decide +kernel))) rfl
theorem ts_34 : Cond.selects RX10 yX10_lay yX10_lay ∈ pm_T := pm_in (List.mem_append_left _ (List.mem_of_getElem? (i := 34) (by decide +kernel))) rfl
theorem vl_X10_101 : pm_LV RX10 101 yX10_lay := ⟨tw_844, tw_846, ts_34⟩
theorem tw_851 : Cond.code yX10_split cX10_split 4 (some .int) ∈ pm_T := pm_in (List.mem_append_right _ (List.mem_of_getElem? (i := 851) (by decide +kernel))) rfl
theorem my_X10_split : pm_Y yX10_split cX10_split 4 (some .int) 2 := ⟨tw_851, tw_11, ⟨by decide, by decide⟩, by decide +kernel⟩
theorem tw_839 : Cond.code yX10_blow cX10_blow 3 (some .int) ∈ pm_T := pm_in (List.mem_append_right _ (List.mem_of_getElem? (i := 839) (by decide +kernel))) rfl
theorem my_X10_blow : pm_Y yX10_blow cX10_blow 3 (some .int) 1 := ⟨tw_839, tw_11, ⟨by decide, by decide⟩, by decide +kernel⟩
theorem tw_831 : Cond.code yX10_endDay cX10_endDay 6 (some .int) ∈ pm_T := pm_in (List.mem_append_right _ (List.mem_of_getElem? (i := 831) (by decide +kernel))) rfl
theorem my_X10_endDay : pm_Y yX10_endDay cX10_endDay 6 (some .int) 0 := ⟨tw_831, tw_11, ⟨by decide, by decide⟩, by decide +kernel⟩
theorem tw_835 : Cond.code yX10_oneAct cX10_oneAct 4 (some .int) ∈ pm_T := pm_in (List.mem_append_right _ (List.mem_of_getElem? (i := 835) (by decide +kernel))) rfl
theorem my_X10_oneAct : pm_Y yX10_oneAct cX10_oneAct 4 (some .int) 1 := ⟨tw_835, tw_11, ⟨by decide, by decide⟩, by decide +kernel⟩
theorem tw_836 : Cond.methodLink RX10 105 yX10_blow ∈ pm_T := pm_in (List.mem_append_right _ (List.mem_of_getElem? (i := 836) (by decide +kernel))) rfl
theorem tw_838 : Cond.instanceMethod yX10_blow ∈ pm_T := pm_in (List.mem_append_right _ (List.mem_of_getElem? (i := 838) (by decide +kernel))) rfl
theorem ts_32 : Cond.selects RX10 yX10_blow yX10_blow ∈ pm_T := pm_in (List.mem_append_left _ (List.mem_of_getElem? (i := 32) (by decide +kernel))) rfl
theorem vl_X10_105 : pm_LV RX10 105 yX10_blow := ⟨tw_836, tw_838, ts_32⟩
theorem tw_840 : Cond.methodLink RX10 108 yX10_mend ∈ pm_T := pm_in (List.mem_append_right _ (List.mem_of_getElem? (i := 840) (by decide +kernel))) rfl
theorem tw_842 : Cond.instanceMethod yX10_mend ∈ pm_T := pm_in (List.mem_append_right _ (List.mem_of_getElem? (i := 842) (by decide +kernel))) rfl
theorem ts_33 : Cond.selects RX10 yX10_mend yX10_mend ∈ pm_T := pm_in (List.mem_append_left _ (List.mem_of_getElem? (i := 33) (by decide +kernel))) rfl
theorem vl_X10_108 : pm_LV RX10 108 yX10_mend := ⟨tw_840, tw_842, ts_33⟩
theorem tw_848 : Cond.methodLink RX10 111 yX10_split ∈ pm_T := pm_in (List.mem_append_right _ (List.mem_of_getElem? (i := 848) (by decide +kernel))) rfl
theorem tw_850 : Cond.instanceMethod yX10_split ∈ pm_T := pm_in (List.mem_append_right _ (List.mem_of_getElem? (i := 850) (by decide +kernel))) rfl
theorem ts_35 : Cond.selects RX10 yX10_split yX10_split ∈ pm_T := pm_in (List.mem_append_left _ (List.mem_of_getElem? (i := 35) (by decide +kernel))) rfl
theorem vl_X10_111 : pm_LV RX10 111 yX10_split := ⟨tw_848, tw_850, ts_35⟩
theorem tw_852 : Cond.methodLink RX10 114 yX10_go ∈ pm_T := pm_in (List.mem_append_right _ (List.mem_of_getElem? (i := 852) (by decide +kernel))) rfl
theorem tw_854 : Cond.instanceMethod yX10_go ∈ pm_T := pm_in (List.mem_append_right _ (List.mem_of_getElem? (i := 854) (by decide +kernel))) rfl
theorem ts_36 : Cond.selects RX10 yX10_go yX10_go ∈ pm_T := pm_in (List.mem_append_left _ (List.mem_of_getElem? (i := 36) (by decide +kernel))) rfl
theorem vl_X10_114 : pm_LV RX10 114 yX10_go := ⟨tw_852, tw_854, ts_36⟩
theorem tw_827 : Cond.code yX10_goWeeks cX10_goWeeks 4 (some .int) ∈ pm_T := pm_in (List.mem_append_right _ (List.mem_of_getElem? (i := 827) (by decide +kernel))) rfl
theorem my_X10_goWeeks : pm_Y yX10_goWeeks cX10_goWeeks 4 (some .int) 0 := ⟨tw_827, tw_11, ⟨by decide, by decide⟩, by decide +kernel⟩
theorem tw_706 : Cond.fieldLink RX10 117 (TX10 13).1 (TX10 13).2.1 (TX10 13).2.2.1 ∈ pm_T := pm_in (List.mem_append_right _ (List.mem_of_getElem? (i := 706) (by decide +kernel))) rfl
theorem fp_X10_117 : pm_FP RX10 117 9 13 false .int := ⟨RX10, TX10, 24, tyX10, in_X10, rfl, by decide, tw_706, tyX10_ok, nmX10, rfl, by decide +kernel, fun h => by cases h⟩
theorem fl_X10_28 : pm_FL RX10 28 9 11 := ⟨RX10, TX10, 24, in_X10, rfl, by decide, Or.inl tw_704⟩
theorem tw_828 : Cond.methodLink RX10 120 yX10_endDay ∈ pm_T := pm_in (List.mem_append_right _ (List.mem_of_getElem? (i := 828) (by decide +kernel))) rfl
theorem tw_830 : Cond.instanceMethod yX10_endDay ∈ pm_T := pm_in (List.mem_append_right _ (List.mem_of_getElem? (i := 830) (by decide +kernel))) rfl
theorem ts_30 : Cond.selects RX10 yX10_endDay yX10_endDay ∈ pm_T := pm_in (List.mem_append_left _ (List.mem_of_getElem? (i := 30) (by decide +kernel))) rfl
theorem vl_X10_120 : pm_LV RX10 120 yX10_endDay := ⟨tw_828, tw_830, ts_30⟩
theorem tw_832 : Cond.methodLink RX10 123 yX10_oneAct ∈ pm_T := pm_in (List.mem_append_right _ (List.mem_of_getElem? (i := 832) (by decide +kernel))) rfl
theorem tw_834 : Cond.instanceMethod yX10_oneAct ∈ pm_T := pm_in (List.mem_append_right _ (List.mem_of_getElem? (i := 834) (by decide +kernel))) rfl
theorem ts_31 : Cond.selects RX10 yX10_oneAct yX10_oneAct ∈ pm_T := pm_in (List.mem_append_left _ (List.mem_of_getElem? (i := 31) (by decide +kernel))) rfl
theorem vl_X10_123 : pm_LV RX10 123 yX10_oneAct := ⟨tw_832, tw_834, ts_31⟩
theorem tw_705 : Cond.fieldLink RX10 126 (TX10 12).1 (TX10 12).2.1 (TX10 12).2.2.1 ∈ pm_T := pm_in (List.mem_append_right _ (List.mem_of_getElem? (i := 705) (by decide +kernel))) rfl
theorem fp_X10_126 : pm_FP RX10 126 9 12 false .int := ⟨RX10, TX10, 24, tyX10, in_X10, rfl, by decide, tw_705, tyX10_ok, nmX10, rfl, by decide +kernel, fun h => by cases h⟩
theorem fl_X10_126 : pm_FL RX10 126 9 12 := ⟨RX10, TX10, 24, in_X10, rfl, by decide, Or.inl tw_705⟩
theorem fl_X10_117 : pm_FL RX10 117 9 13 := ⟨RX10, TX10, 24, in_X10, rfl, by decide, Or.inl tw_706⟩
theorem fl_X10_95 : pm_FL RX10 95 9 9 := ⟨RX10, TX10, 24, in_X10, rfl, by decide, Or.inl tw_702⟩
theorem tw_823 : Cond.code yX10_judge cX10_judge 3 (some .int) ∈ pm_T := pm_in (List.mem_append_right _ (List.mem_of_getElem? (i := 823) (by decide +kernel))) rfl
theorem my_X10_judge : pm_Y yX10_judge cX10_judge 3 (some .int) 1 := ⟨tw_823, tw_11, ⟨by decide, by decide⟩, by decide +kernel⟩
theorem tw_824 : Cond.methodLink RX10 129 yX10_goWeeks ∈ pm_T := pm_in (List.mem_append_right _ (List.mem_of_getElem? (i := 824) (by decide +kernel))) rfl
theorem tw_826 : Cond.instanceMethod yX10_goWeeks ∈ pm_T := pm_in (List.mem_append_right _ (List.mem_of_getElem? (i := 826) (by decide +kernel))) rfl
theorem ts_29 : Cond.selects RX10 yX10_goWeeks yX10_goWeeks ∈ pm_T := pm_in (List.mem_append_left _ (List.mem_of_getElem? (i := 29) (by decide +kernel))) rfl
theorem vl_X10_129 : pm_LV RX10 129 yX10_goWeeks := ⟨tw_824, tw_826, ts_29⟩
theorem tw_863 : Cond.code yX10_barOfWeeks cX10_barOfWeeks 1 (some .int) ∈ pm_T := pm_in (List.mem_append_right _ (List.mem_of_getElem? (i := 863) (by decide +kernel))) rfl
theorem my_X10_barOfWeeks : pm_Y yX10_barOfWeeks cX10_barOfWeeks 1 (some .int) 0 := ⟨tw_863, tw_11, ⟨by decide, by decide⟩, by decide +kernel⟩
theorem tw_859 : Cond.code yX10_done cX10_done 2 (some .int) ∈ pm_T := pm_in (List.mem_append_right _ (List.mem_of_getElem? (i := 859) (by decide +kernel))) rfl
theorem my_X10_done : pm_Y yX10_done cX10_done 2 (some .int) 0 := ⟨tw_859, tw_11, ⟨by decide, by decide⟩, by decide +kernel⟩
theorem tw_860 : Cond.methodLink RX10 132 yX10_barOfWeeks ∈ pm_T := pm_in (List.mem_append_right _ (List.mem_of_getElem? (i := 860) (by decide +kernel))) rfl
theorem tw_862 : Cond.instanceMethod yX10_barOfWeeks ∈ pm_T := pm_in (List.mem_append_right _ (List.mem_of_getElem? (i := 862) (by decide +kernel))) rfl
theorem ts_37 : Cond.selects RX10 yX10_barOfWeeks yX10_barOfWeeks ∈ pm_T := pm_in (List.mem_append_left _ (List.mem_of_getElem? (i := 37) (by decide +kernel))) rfl
theorem vl_X10_132 : pm_LV RX10 132 yX10_barOfWeeks := ⟨tw_860, tw_862, ts_37⟩
theorem tw_867 : Cond.code yX10_behind cX10_behind 3 (some .int) ∈ pm_T := pm_in (List.mem_append_right _ (List.mem_of_getElem? (i := 867) (by decide +kernel))) rfl
theorem my_X10_behind : pm_Y yX10_behind cX10_behind 3 (some .int) 2 := ⟨tw_867, tw_11, ⟨by decide, by decide⟩, by decide +kernel⟩
theorem tw_871 : Cond.code yX10_goes cX10_goes 3 (some .int) ∈ pm_T := pm_in (List.mem_append_right _ (List.mem_of_getElem? (i := 871) (by decide +kernel))) rfl
theorem my_X10_goes : pm_Y yX10_goes cX10_goes 3 (some .int) 2 := ⟨tw_871, tw_11, ⟨by decide, by decide⟩, by decide +kernel⟩
theorem tw_875 : Cond.code yX10_then cX10_then 2 (some .int) ∈ pm_T := pm_in (List.mem_append_right _ (List.mem_of_getElem? (i := 875) (by decide +kernel))) rfl
theorem my_X10_then : pm_Y yX10_then cX10_then 2 (some .int) 1 := ⟨tw_875, tw_11, ⟨by decide, by decide⟩, by decide +kernel⟩
theorem tw_876 : Cond.methodLink RX10 135 yX10_away ∈ pm_T := pm_in (List.mem_append_right _ (List.mem_of_getElem? (i := 876) (by decide +kernel))) rfl
theorem tw_878 : Cond.instanceMethod yX10_away ∈ pm_T := pm_in (List.mem_append_right _ (List.mem_of_getElem? (i := 878) (by decide +kernel))) rfl
theorem ts_38 : Cond.selects RX10 yX10_away yX10_away ∈ pm_T := pm_in (List.mem_append_left _ (List.mem_of_getElem? (i := 38) (by decide +kernel))) rfl
theorem vl_X10_135 : pm_LV RX10 135 yX10_away := ⟨tw_876, tw_878, ts_38⟩
theorem fl_X10_98 : pm_FL RX10 98 9 10 := ⟨RX10, TX10, 24, in_X10, rfl, by decide, Or.inl tw_703⟩
theorem tw_887 : Cond.code yX10_layApart cX10_layApart 4 none ∈ pm_T := pm_in (List.mem_append_right _ (List.mem_of_getElem? (i := 887) (by decide +kernel))) rfl
theorem my_X10_layApart : pm_Y yX10_layApart cX10_layApart 4 none 0 := ⟨tw_887, tw_11, ⟨by decide, by decide⟩, by decide +kernel⟩
theorem fl_X10_31 : pm_FL RX10 31 9 14 := ⟨RX10, TX10, 24, in_X10, rfl, by decide, Or.inl tw_707⟩
theorem tw_888 : Cond.constant RX10 138 (1000000) ∈ pm_T := pm_in (List.mem_append_right _ (List.mem_of_getElem? (i := 888) (by decide +kernel))) rfl
theorem kc_X10_138 : Cond.constant RX10 138 (1000000) ∈ pm_T := tw_888
theorem tw_883 : Cond.code yX10_round cX10_round 3 (some .int) ∈ pm_T := pm_in (List.mem_append_right _ (List.mem_of_getElem? (i := 883) (by decide +kernel))) rfl
theorem my_X10_round : pm_Y yX10_round cX10_round 3 (some .int) 2 := ⟨tw_883, tw_11, ⟨by decide, by decide⟩, by decide +kernel⟩
theorem tw_884 : Cond.methodLink RX10 139 yX10_layApart ∈ pm_T := pm_in (List.mem_append_right _ (List.mem_of_getElem? (i := 884) (by decide +kernel))) rfl
theorem tw_886 : Cond.instanceMethod yX10_layApart ∈ pm_T := pm_in (List.mem_append_right _ (List.mem_of_getElem? (i := 886) (by decide +kernel))) rfl
theorem ts_39 : Cond.selects RX10 yX10_layApart yX10_layApart ∈ pm_T := pm_in (List.mem_append_left _ (List.mem_of_getElem? (i := 39) (by decide +kernel))) rfl
theorem vl_X10_139 : pm_LV RX10 139 yX10_layApart := ⟨tw_884, tw_886, ts_39⟩
theorem tw_892 : Cond.code yX10_mends cX10_mends 9 (some .int) ∈ pm_T := pm_in (List.mem_append_right _ (List.mem_of_getElem? (i := 892) (by decide +kernel))) rfl
theorem my_X10_mends : pm_Y yX10_mends cX10_mends 9 (some .int) 1 := ⟨tw_892, tw_11, ⟨by decide, by decide⟩, by decide +kernel⟩
theorem tw_893 : Cond.methodLink RX10 142 yX10_has ∈ pm_T := pm_in (List.mem_append_right _ (List.mem_of_getElem? (i := 893) (by decide +kernel))) rfl
theorem tw_894 : Cond.static yX10_has ∈ pm_T := pm_in (List.mem_append_right _ (List.mem_of_getElem? (i := 894) (by decide +kernel))) rfl
theorem sl_X10_142 : pm_LS RX10 142 yX10_has := ⟨Or.inl tw_893, tw_894⟩
theorem fl_X10_34 : pm_FL RX10 34 9 15 := ⟨RX10, TX10, 24, in_X10, rfl, by decide, Or.inl tw_708⟩
theorem tw_907 : Cond.code yX10_placeOf cX10_placeOf 5 (some .int) ∈ pm_T := pm_in (List.mem_append_right _ (List.mem_of_getElem? (i := 907) (by decide +kernel))) rfl
theorem my_X10_placeOf : pm_Y yX10_placeOf cX10_placeOf 5 (some .int) 3 := ⟨tw_907, tw_11, ⟨by decide, by decide⟩, by decide +kernel⟩
theorem tw_911 : Cond.code yX10_isSteady cX10_isSteady 4 (some .boolean) ∈ pm_T := pm_in (List.mem_append_right _ (List.mem_of_getElem? (i := 911) (by decide +kernel))) rfl
theorem my_X10_isSteady : pm_Y yX10_isSteady cX10_isSteady 4 (some .boolean) 0 := ⟨tw_911, tw_11, ⟨by decide, by decide⟩, by decide +kernel⟩
theorem tw_904 : Cond.methodLink RX10 146 yX10_placeOf ∈ pm_T := pm_in (List.mem_append_right _ (List.mem_of_getElem? (i := 904) (by decide +kernel))) rfl
theorem tw_906 : Cond.instanceMethod yX10_placeOf ∈ pm_T := pm_in (List.mem_append_right _ (List.mem_of_getElem? (i := 906) (by decide +kernel))) rfl
theorem ts_41 : Cond.selects RX10 yX10_placeOf yX10_placeOf ∈ pm_T := pm_in (List.mem_append_left _ (List.mem_of_getElem? (i := 41) (by decide +kernel))) rfl
theorem vl_X10_146 : pm_LV RX10 146 yX10_placeOf := ⟨tw_904, tw_906, ts_41⟩
theorem fl_X10_37 : pm_FL RX10 37 9 16 := ⟨RX10, TX10, 24, in_X10, rfl, by decide, Or.inl tw_709⟩
theorem fl_X10_40 : pm_FL RX10 40 9 17 := ⟨RX10, TX10, 24, in_X10, rfl, by decide, Or.inl tw_710⟩
theorem tw_903 : Cond.code yX10_laySteady cX10_laySteady 8 (some .int) ∈ pm_T := pm_in (List.mem_append_right _ (List.mem_of_getElem? (i := 903) (by decide +kernel))) rfl
theorem my_X10_laySteady : pm_Y yX10_laySteady cX10_laySteady 8 (some .int) 1 := ⟨tw_903, tw_11, ⟨by decide, by decide⟩, by decide +kernel⟩
theorem tw_908 : Cond.methodLink RX10 150 yX10_isSteady ∈ pm_T := pm_in (List.mem_append_right _ (List.mem_of_getElem? (i := 908) (by decide +kernel))) rfl
theorem tw_910 : Cond.instanceMethod yX10_isSteady ∈ pm_T := pm_in (List.mem_append_right _ (List.mem_of_getElem? (i := 910) (by decide +kernel))) rfl
theorem ts_42 : Cond.selects RX10 yX10_isSteady yX10_isSteady ∈ pm_T := pm_in (List.mem_append_left _ (List.mem_of_getElem? (i := 42) (by decide +kernel))) rfl
theorem vl_X10_150 : pm_LV RX10 150 yX10_isSteady := ⟨tw_908, tw_910, ts_42⟩
theorem fl_X10_43 : pm_FL RX10 43 9 18 := ⟨RX10, TX10, 24, in_X10, rfl, by decide, Or.inl tw_711⟩
theorem tw_899 : Cond.code yX10_steady cX10_steady 1 (some .int) ∈ pm_T := pm_in (List.mem_append_right _ (List.mem_of_getElem? (i := 899) (by decide +kernel))) rfl
theorem my_X10_steady : pm_Y yX10_steady cX10_steady 1 (some .int) 0 := ⟨tw_899, tw_11, ⟨by decide, by decide⟩, by decide +kernel⟩
theorem tw_900 : Cond.methodLink RX10 154 yX10_laySteady ∈ pm_T := pm_in (List.mem_append_right _ (List.mem_of_getElem? (i := 900) (by decide +kernel))) rfl
theorem tw_902 : Cond.instanceMethod yX10_laySteady ∈ pm_T := pm_in (List.mem_append_right _ (List.mem_of_getElem? (i := 902) (by decide +kernel))) rfl
theorem ts_40 : Cond.selects RX10 yX10_laySteady yX10_laySteady ∈ pm_T := pm_in (List.mem_append_left _ (List.mem_of_getElem? (i := 40) (by decide +kernel))) rfl
theorem vl_X10_154 : pm_LV RX10 154 yX10_laySteady := ⟨tw_900, tw_902, ts_40⟩
theorem tw_915 : Cond.code yX10_wed cX10_wed 6 (some .int) ∈ pm_T := pm_in (List.mem_append_right _ (List.mem_of_getElem? (i := 915) (by decide +kernel))) rfl
theorem my_X10_wed : pm_Y yX10_wed cX10_wed 6 (some .int) 3 := ⟨tw_915, tw_11, ⟨by decide, by decide⟩, by decide +kernel⟩
theorem tw_919 : Cond.code yX10_seen cX10_seen 4 (some .int) ∈ pm_T := pm_in (List.mem_append_right _ (List.mem_of_getElem? (i := 919) (by decide +kernel))) rfl
theorem my_X10_seen : pm_Y yX10_seen cX10_seen 4 (some .int) 3 := ⟨tw_919, tw_11, ⟨by decide, by decide⟩, by decide +kernel⟩
theorem tw_697 : Cond.fieldLink RX10 157 (TX10 4).1 (TX10 4).2.1 (TX10 4).2.2.1 ∈ pm_T := pm_in (List.mem_append_right _ (List.mem_of_getElem? (i := 697) (by decide +kernel))) rfl
theorem fl_X10_157 : pm_FL RX10 157 9 4 := ⟨RX10, TX10, 24, in_X10, rfl, by decide, Or.inl tw_697⟩
theorem fl_X10_22 : pm_FL RX10 22 9 5 := ⟨RX10, TX10, 24, in_X10, rfl, by decide, Or.inl tw_698⟩
theorem fp_X10_157 : pm_FP RX10 157 9 4 false .int := ⟨RX10, TX10, 24, tyX10, in_X10, rfl, by decide, tw_697, tyX10_ok, nmX10, rfl, by decide +kernel, fun h => by cases h⟩
theorem tw_923 : Cond.code yX10_forget cX10_forget 2 (some .int) ∈ pm_T := pm_in (List.mem_append_right _ (List.mem_of_getElem? (i := 923) (by decide +kernel))) rfl
theorem my_X10_forget : pm_Y yX10_forget cX10_forget 2 (some .int) 0 := ⟨tw_923, tw_11, ⟨by decide, by decide⟩, by decide +kernel⟩
theorem tw_934 : Cond.code yX10_isDown cX10_isDown 3 (some .boolean) ∈ pm_T := pm_in (List.mem_append_right _ (List.mem_of_getElem? (i := 934) (by decide +kernel))) rfl
theorem my_X10_isDown : pm_Y yX10_isDown cX10_isDown 3 (some .boolean) 3 := ⟨tw_934, tw_11, ⟨by decide, by decide⟩, by decide +kernel⟩
theorem tw_931 : Cond.code yX10_isFit cX10_isFit 4 (some .boolean) ∈ pm_T := pm_in (List.mem_append_right _ (List.mem_of_getElem? (i := 931) (by decide +kernel))) rfl
theorem my_X10_isFit : pm_Y yX10_isFit cX10_isFit 4 (some .boolean) 1 := ⟨tw_931, tw_11, ⟨by decide, by decide⟩, by decide +kernel⟩
theorem tw_932 : Cond.methodLink RX10 160 yX10_isDown ∈ pm_T := pm_in (List.mem_append_right _ (List.mem_of_getElem? (i := 932) (by decide +kernel))) rfl
theorem tw_933 : Cond.static yX10_isDown ∈ pm_T := pm_in (List.mem_append_right _ (List.mem_of_getElem? (i := 933) (by decide +kernel))) rfl
theorem sl_X10_160 : pm_LS RX10 160 yX10_isDown := ⟨Or.inl tw_932, tw_933⟩
theorem tw_927 : Cond.code yX10_posts cX10_posts 4 (some .int) ∈ pm_T := pm_in (List.mem_append_right _ (List.mem_of_getElem? (i := 927) (by decide +kernel))) rfl
theorem my_X10_posts : pm_Y yX10_posts cX10_posts 4 (some .int) 1 := ⟨tw_927, tw_11, ⟨by decide, by decide⟩, by decide +kernel⟩
theorem tw_928 : Cond.methodLink RX10 163 yX10_isFit ∈ pm_T := pm_in (List.mem_append_right _ (List.mem_of_getElem? (i := 928) (by decide +kernel))) rfl
theorem tw_930 : Cond.instanceMethod yX10_isFit ∈ pm_T := pm_in (List.mem_append_right _ (List.mem_of_getElem? (i := 930) (by decide +kernel))) rfl
theorem ts_43 : Cond.selects RX10 yX10_isFit yX10_isFit ∈ pm_T := pm_in (List.mem_append_left _ (List.mem_of_getElem? (i := 43) (by decide +kernel))) rfl
theorem vl_X10_163 : pm_LV RX10 163 yX10_isFit := ⟨tw_928, tw_930, ts_43⟩
theorem tw_938 : Cond.code yX10_ask cX10_ask 8 (some .int) ∈ pm_T := pm_in (List.mem_append_right _ (List.mem_of_getElem? (i := 938) (by decide +kernel))) rfl
theorem my_X10_ask : pm_Y yX10_ask cX10_ask 8 (some .int) 1 := ⟨tw_938, tw_11, ⟨by decide, by decide⟩, by decide +kernel⟩
theorem fl_X10_46 : pm_FL RX10 46 9 19 := ⟨RX10, TX10, 24, in_X10, rfl, by decide, Or.inl tw_712⟩
theorem tw_946 : Cond.code yX10_layWorth cX10_layWorth 4 none ∈ pm_T := pm_in (List.mem_append_right _ (List.mem_of_getElem? (i := 946) (by decide +kernel))) rfl
theorem my_X10_layWorth : pm_Y yX10_layWorth cX10_layWorth 4 none 1 := ⟨tw_946, tw_11, ⟨by decide, by decide⟩, by decide +kernel⟩
theorem fl_X10_52 : pm_FL RX10 52 9 21 := ⟨RX10, TX10, 24, in_X10, rfl, by decide, Or.inl tw_714⟩
theorem fl_X10_49 : pm_FL RX10 49 9 20 := ⟨RX10, TX10, 24, in_X10, rfl, by decide, Or.inl tw_713⟩
theorem tw_942 : Cond.code yX10_heaps cX10_heaps 4 (some .int) ∈ pm_T := pm_in (List.mem_append_right _ (List.mem_of_getElem? (i := 942) (by decide +kernel))) rfl
theorem my_X10_heaps : pm_Y yX10_heaps cX10_heaps 4 (some .int) 2 := ⟨tw_942, tw_11, ⟨by decide, by decide⟩, by decide +kernel⟩
theorem tw_943 : Cond.methodLink RX10 166 yX10_layWorth ∈ pm_T := pm_in (List.mem_append_right _ (List.mem_of_getElem? (i := 943) (by decide +kernel))) rfl
theorem tw_945 : Cond.instanceMethod yX10_layWorth ∈ pm_T := pm_in (List.mem_append_right _ (List.mem_of_getElem? (i := 945) (by decide +kernel))) rfl
theorem ts_44 : Cond.selects RX10 yX10_layWorth yX10_layWorth ∈ pm_T := pm_in (List.mem_append_left _ (List.mem_of_getElem? (i := 44) (by decide +kernel))) rfl
theorem vl_X10_166 : pm_LV RX10 166 yX10_layWorth := ⟨tw_943, tw_945, ts_44⟩
theorem tw_954 : Cond.code yX10_power cX10_power 5 (some .long) ∈ pm_T := pm_in (List.mem_append_right _ (List.mem_of_getElem? (i := 954) (by decide +kernel))) rfl
theorem my_X10_power : pm_Y yX10_power cX10_power 5 (some .long) 2 := ⟨tw_954, tw_11, ⟨by decide, by decide⟩, by decide +kernel⟩
theorem tw_950 : Cond.code yX10_gust cX10_gust 16 (some .long) ∈ pm_T := pm_in (List.mem_append_right _ (List.mem_of_getElem? (i := 950) (by decide +kernel))) rfl
theorem my_X10_gust : pm_Y yX10_gust cX10_gust 16 (some .long) 5 := ⟨tw_950, tw_11, ⟨by decide, by decide⟩, by decide +kernel⟩
theorem tw_951 : Cond.constantLong RX10 170 (-1000000000000000002) ∈ pm_T := pm_in (List.mem_append_right _ (List.mem_of_getElem? (i := 951) (by decide +kernel))) rfl
theorem kc_X10_170 : Cond.constantLong RX10 170 (-1000000000000000002) ∈ pm_T := tw_951
theorem tw_952 : Cond.methodLink RX10 172 yX10_power ∈ pm_T := pm_in (List.mem_append_right _ (List.mem_of_getElem? (i := 952) (by decide +kernel))) rfl
theorem tw_953 : Cond.static yX10_power ∈ pm_T := pm_in (List.mem_append_right _ (List.mem_of_getElem? (i := 953) (by decide +kernel))) rfl
theorem sl_X10_172 : pm_LS RX10 172 yX10_power := ⟨Or.inl tw_952, tw_953⟩
theorem tw_958 : Cond.code yX10_year cX10_year 9 (some .int) ∈ pm_T := pm_in (List.mem_append_right _ (List.mem_of_getElem? (i := 958) (by decide +kernel))) rfl
theorem my_X10_year : pm_Y yX10_year cX10_year 9 (some .int) 3 := ⟨tw_958, tw_11, ⟨by decide, by decide⟩, by decide +kernel⟩
theorem tw_959 : Cond.constant RX10 176 (65537) ∈ pm_T := pm_in (List.mem_append_right _ (List.mem_of_getElem? (i := 959) (by decide +kernel))) rfl
theorem kc_X10_176 : Cond.constant RX10 176 (65537) ∈ pm_T := tw_959
theorem tw_963 : Cond.code yX10_image cX10_image 4 (some .int) ∈ pm_T := pm_in (List.mem_append_right _ (List.mem_of_getElem? (i := 963) (by decide +kernel))) rfl
theorem my_X10_image : pm_Y yX10_image cX10_image 4 (some .int) 1 := ⟨tw_963, tw_11, ⟨by decide, by decide⟩, by decide +kernel⟩
theorem fl_X10_56 : pm_FL RX10 56 9 22 := ⟨RX10, TX10, 24, in_X10, rfl, by decide, Or.inl tw_715⟩
theorem fl_X10_59 : pm_FL RX10 59 9 23 := ⟨RX10, TX10, 24, in_X10, rfl, by decide, Or.inl tw_716⟩
theorem tw_967 : Cond.code yX10_restore cX10_restore 4 (some .int) ∈ pm_T := pm_in (List.mem_append_right _ (List.mem_of_getElem? (i := 967) (by decide +kernel))) rfl
theorem my_X10_restore : pm_Y yX10_restore cX10_restore 4 (some .int) 1 := ⟨tw_967, tw_11, ⟨by decide, by decide⟩, by decide +kernel⟩
theorem tw_971 : Cond.code yX10_told cX10_told 4 (some .int) ∈ pm_T := pm_in (List.mem_append_right _ (List.mem_of_getElem? (i := 971) (by decide +kernel))) rfl
theorem my_X10_told : pm_Y yX10_told cX10_told 4 (some .int) 1 := ⟨tw_971, tw_11, ⟨by decide, by decide⟩, by decide +kernel⟩
theorem tw_433 : Cond.code yJ6_compare_7cf53 cJ6_compare_7cf53 2 (some .int) ∈ pm_T := pm_in (List.mem_append_right _ (List.mem_of_getElem? (i := 433) (by decide +kernel))) rfl
theorem tw_14 : Cond.initialized RJ6 ∈ pm_T := pm_in (List.mem_append_right _ (List.mem_of_getElem? (i := 14) (by decide +kernel))) rfl
theorem my_J6_compare_7cf53 : pm_Y yJ6_compare_7cf53 cJ6_compare_7cf53 2 (some .int) 2 := ⟨tw_433, tw_14, ⟨by decide, by decide⟩, by decide +kernel⟩
theorem tw_640 : Cond.code yJ6_bitCount_0f7a4 cJ6_bitCount_0f7a4 1 (some .int) ∈ pm_T := pm_in (List.mem_append_right _ (List.mem_of_getElem? (i := 640) (by decide +kernel))) rfl
theorem my_J6_bitCount_0f7a4 : pm_Y yJ6_bitCount_0f7a4 cJ6_bitCount_0f7a4 1 (some .int) 1 := ⟨tw_640, tw_14, ⟨by decide, by decide⟩, by decide +kernel⟩
theorem tw_641 : Cond.constant RJ6 265 (1431655765) ∈ pm_T := pm_in (List.mem_append_right _ (List.mem_of_getElem? (i := 641) (by decide +kernel))) rfl
theorem kc_J6_265 : Cond.constant RJ6 265 (1431655765) ∈ pm_T := tw_641
theorem tw_642 : Cond.constant RJ6 266 (858993459) ∈ pm_T := pm_in (List.mem_append_right _ (List.mem_of_getElem? (i := 642) (by decide +kernel))) rfl
theorem kc_J6_266 : Cond.constant RJ6 266 (858993459) ∈ pm_T := tw_642
theorem tw_643 : Cond.constant RJ6 267 (252645135) ∈ pm_T := pm_in (List.mem_append_right _ (List.mem_of_getElem? (i := 643) (by decide +kernel))) rfl
theorem kc_J6_267 : Cond.constant RJ6 267 (252645135) ∈ pm_T := tw_643
theorem tw_400 : Cond.code yJ9_max_7cf53 cJ9_max_7cf53 2 (some .int) ∈ pm_T := pm_in (List.mem_append_right _ (List.mem_of_getElem? (i := 400) (by decide +kernel))) rfl
theorem tw_13 : Cond.initialized RJ9 ∈ pm_T := pm_in (List.mem_append_right _ (List.mem_of_getElem? (i := 13) (by decide +kernel))) rfl
theorem my_J9_max_7cf53 : pm_Y yJ9_max_7cf53 cJ9_max_7cf53 2 (some .int) 2 := ⟨tw_400, tw_13, ⟨by decide, by decide⟩, by decide +kernel⟩
theorem tw_397 : Cond.code yJ9_min_7cf53 cJ9_min_7cf53 2 (some .int) ∈ pm_T := pm_in (List.mem_append_right _ (List.mem_of_getElem? (i := 397) (by decide +kernel))) rfl
theorem my_J9_min_7cf53 : pm_Y yJ9_min_7cf53 cJ9_min_7cf53 2 (some .int) 2 := ⟨tw_397, tw_13, ⟨by decide, by decide⟩, by decide +kernel⟩
theorem tw_38 : Cond.code yJ7_fill_53178 cJ7_fill_53178 4 none ∈ pm_T := pm_in (List.mem_append_right _ (List.mem_of_getElem? (i := 38) (by decide +kernel))) rfl
theorem tw_4 : Cond.initialized RJ7 ∈ pm_T := pm_in (List.mem_append_right _ (List.mem_of_getElem? (i := 4) (by decide +kernel))) rfl
theorem my_J7_fill_53178 : pm_Y yJ7_fill_53178 cJ7_fill_53178 4 none 2 := ⟨tw_38, tw_4, ⟨by decide, by decide⟩, by decide +kernel⟩
theorem tw_16 : Cond.classLink RL 7 RX9 ∈ pm_T := pm_in (List.mem_append_right _ (List.mem_of_getElem? (i := 16) (by decide +kernel))) rfl
theorem tw_17 : Cond.instantiable RX9 8 ∈ pm_T := pm_in (List.mem_append_right _ (List.mem_of_getElem? (i := 17) (by decide +kernel))) rfl
theorem nw_L_7 : Cond.classLink RL 7 RX9 ∈ pm_T ∧ Cond.instantiable RX9 8 ∈ pm_T ∧ Cond.initialized RX9 ∈ pm_T := ⟨tw_16, tw_17, tw_1⟩
theorem tw_18 : Cond.methodLink RL 9 yX9_init ∈ pm_T := pm_in (List.mem_append_right _ (List.mem_of_getElem? (i := 18) (by decide +kernel))) rfl
theorem tw_19 : Cond.instanceMethod yX9_init ∈ pm_T := pm_in (List.mem_append_right _ (List.mem_of_getElem? (i := 19) (by decide +kernel))) rfl
theorem il_L_9 : pm_LI RL 9 yX9_init := ⟨tw_18, tw_19, rfl⟩
theorem tw_687 : Cond.classLink RL 10 RX10 ∈ pm_T := pm_in (List.mem_append_right _ (List.mem_of_getElem? (i := 687) (by decide +kernel))) rfl
theorem tw_688 : Cond.instantiable RX10 24 ∈ pm_T := pm_in (List.mem_append_right _ (List.mem_of_getElem? (i := 688) (by decide +kernel))) rfl
theorem nw_L_10 : Cond.classLink RL 10 RX10 ∈ pm_T ∧ Cond.instantiable RX10 24 ∈ pm_T ∧ Cond.initialized RX10 ∈ pm_T := ⟨tw_687, tw_688, tw_11⟩
theorem tw_689 : Cond.methodLink RL 12 yX10_init ∈ pm_T := pm_in (List.mem_append_right _ (List.mem_of_getElem? (i := 689) (by decide +kernel))) rfl
theorem tw_690 : Cond.instanceMethod yX10_init ∈ pm_T := pm_in (List.mem_append_right _ (List.mem_of_getElem? (i := 690) (by decide +kernel))) rfl
theorem il_L_12 : pm_LI RL 12 yX10_init := ⟨tw_689, tw_690, rfl⟩
theorem tw_209 : Cond.methodLink RL 13 yX9_pale ∈ pm_T := pm_in (List.mem_append_right _ (List.mem_of_getElem? (i := 209) (by decide +kernel))) rfl
theorem tw_210 : Cond.instanceMethod yX9_pale ∈ pm_T := pm_in (List.mem_append_right _ (List.mem_of_getElem? (i := 210) (by decide +kernel))) rfl
theorem tw_211 : Cond.selects RX9 yX9_pale yX9_pale ∈ pm_T := pm_in (List.mem_append_right _ (List.mem_of_getElem? (i := 211) (by decide +kernel))) rfl
theorem vl_L_13 : pm_LV RL 13 yX9_pale := ⟨tw_209, tw_210, tw_211⟩
theorem tw_767 : Cond.methodLink RL 17 yX10_pale ∈ pm_T := pm_in (List.mem_append_right _ (List.mem_of_getElem? (i := 767) (by decide +kernel))) rfl
theorem tw_768 : Cond.instanceMethod yX10_pale ∈ pm_T := pm_in (List.mem_append_right _ (List.mem_of_getElem? (i := 768) (by decide +kernel))) rfl
theorem tw_769 : Cond.selects RX10 yX10_pale yX10_pale ∈ pm_T := pm_in (List.mem_append_right _ (List.mem_of_getElem? (i := 769) (by decide +kernel))) rfl
theorem vl_L_17 : pm_LV RL 17 yX10_pale := ⟨tw_767, tw_768, tw_769⟩
theorem tw_232 : Cond.methodLink RL 18 yX9_road ∈ pm_T := pm_in (List.mem_append_right _ (List.mem_of_getElem? (i := 232) (by decide +kernel))) rfl
theorem tw_233 : Cond.instanceMethod yX9_road ∈ pm_T := pm_in (List.mem_append_right _ (List.mem_of_getElem? (i := 233) (by decide +kernel))) rfl
theorem tw_234 : Cond.selects RX9 yX9_road yX9_road ∈ pm_T := pm_in (List.mem_append_right _ (List.mem_of_getElem? (i := 234) (by decide +kernel))) rfl
theorem vl_L_18 : pm_LV RL 18 yX9_road := ⟨tw_232, tw_233, tw_234⟩
theorem tw_785 : Cond.methodLink RL 21 yX10_road ∈ pm_T := pm_in (List.mem_append_right _ (List.mem_of_getElem? (i := 785) (by decide +kernel))) rfl
theorem tw_786 : Cond.instanceMethod yX10_road ∈ pm_T := pm_in (List.mem_append_right _ (List.mem_of_getElem? (i := 786) (by decide +kernel))) rfl
theorem tw_787 : Cond.selects RX10 yX10_road yX10_road ∈ pm_T := pm_in (List.mem_append_right _ (List.mem_of_getElem? (i := 787) (by decide +kernel))) rfl
theorem vl_L_21 : pm_LV RL 21 yX10_road := ⟨tw_785, tw_786, tw_787⟩
theorem tw_245 : Cond.methodLink RL 22 yX9_farm ∈ pm_T := pm_in (List.mem_append_right _ (List.mem_of_getElem? (i := 245) (by decide +kernel))) rfl
theorem tw_246 : Cond.instanceMethod yX9_farm ∈ pm_T := pm_in (List.mem_append_right _ (List.mem_of_getElem? (i := 246) (by decide +kernel))) rfl
theorem tw_247 : Cond.selects RX9 yX9_farm yX9_farm ∈ pm_T := pm_in (List.mem_append_right _ (List.mem_of_getElem? (i := 247) (by decide +kernel))) rfl
theorem vl_L_22 : pm_LV RL 22 yX9_farm := ⟨tw_245, tw_246, tw_247⟩
theorem tw_789 : Cond.methodLink RL 25 yX10_farm ∈ pm_T := pm_in (List.mem_append_right _ (List.mem_of_getElem? (i := 789) (by decide +kernel))) rfl
theorem tw_790 : Cond.instanceMethod yX10_farm ∈ pm_T := pm_in (List.mem_append_right _ (List.mem_of_getElem? (i := 790) (by decide +kernel))) rfl
theorem tw_791 : Cond.selects RX10 yX10_farm yX10_farm ∈ pm_T := pm_in (List.mem_append_right _ (List.mem_of_getElem? (i := 791) (by decide +kernel))) rfl
theorem vl_L_25 : pm_LV RL 25 yX10_farm := ⟨tw_789, tw_790, tw_791⟩
theorem tw_257 : Cond.methodLink RL 26 yX9_likes ∈ pm_T := pm_in (List.mem_append_right _ (List.mem_of_getElem? (i := 257) (by decide +kernel))) rfl
theorem tw_258 : Cond.instanceMethod yX9_likes ∈ pm_T := pm_in (List.mem_append_right _ (List.mem_of_getElem? (i := 258) (by decide +kernel))) rfl
theorem tw_259 : Cond.selects RX9 yX9_likes yX9_likes ∈ pm_T := pm_in (List.mem_append_right _ (List.mem_of_getElem? (i := 259) (by decide +kernel))) rfl
theorem vl_L_26 : pm_LV RL 26 yX9_likes := ⟨tw_257, tw_258, tw_259⟩
theorem tw_793 : Cond.methodLink RL 29 yX10_likes ∈ pm_T := pm_in (List.mem_append_right _ (List.mem_of_getElem? (i := 793) (by decide +kernel))) rfl
theorem tw_794 : Cond.instanceMethod yX10_likes ∈ pm_T := pm_in (List.mem_append_right _ (List.mem_of_getElem? (i := 794) (by decide +kernel))) rfl
theorem tw_795 : Cond.selects RX10 yX10_likes yX10_likes ∈ pm_T := pm_in (List.mem_append_right _ (List.mem_of_getElem? (i := 795) (by decide +kernel))) rfl
theorem vl_L_29 : pm_LV RL 29 yX10_likes := ⟨tw_793, tw_794, tw_795⟩
theorem tw_284 : Cond.methodLink RL 30 yX9_say ∈ pm_T := pm_in (List.mem_append_right _ (List.mem_of_getElem? (i := 284) (by decide +kernel))) rfl
theorem tw_285 : Cond.instanceMethod yX9_say ∈ pm_T := pm_in (List.mem_append_right _ (List.mem_of_getElem? (i := 285) (by decide +kernel))) rfl
theorem tw_286 : Cond.selects RX9 yX9_say yX9_say ∈ pm_T := pm_in (List.mem_append_right _ (List.mem_of_getElem? (i := 286) (by decide +kernel))) rfl
theorem vl_L_30 : pm_LV RL 30 yX9_say := ⟨tw_284, tw_285, tw_286⟩
theorem tw_801 : Cond.methodLink RL 34 yX10_say ∈ pm_T := pm_in (List.mem_append_right _ (List.mem_of_getElem? (i := 801) (by decide +kernel))) rfl
theorem tw_802 : Cond.instanceMethod yX10_say ∈ pm_T := pm_in (List.mem_append_right _ (List.mem_of_getElem? (i := 802) (by decide +kernel))) rfl
theorem tw_803 : Cond.selects RX10 yX10_say yX10_say ∈ pm_T := pm_in (List.mem_append_right _ (List.mem_of_getElem? (i := 803) (by decide +kernel))) rfl
theorem vl_L_34 : pm_LV RL 34 yX10_say := ⟨tw_801, tw_802, tw_803⟩
theorem tw_296 : Cond.methodLink RL 35 yX9_wipe ∈ pm_T := pm_in (List.mem_append_right _ (List.mem_of_getElem? (i := 296) (by decide +kernel))) rfl
theorem tw_297 : Cond.instanceMethod yX9_wipe ∈ pm_T := pm_in (List.mem_append_right _ (List.mem_of_getElem? (i := 297) (by decide +kernel))) rfl
theorem tw_298 : Cond.selects RX9 yX9_wipe yX9_wipe ∈ pm_T := pm_in (List.mem_append_right _ (List.mem_of_getElem? (i := 298) (by decide +kernel))) rfl
theorem vl_L_35 : pm_LV RL 35 yX9_wipe := ⟨tw_296, tw_297, tw_298⟩
theorem tw_805 : Cond.methodLink RL 39 yX10_wipe ∈ pm_T := pm_in (List.mem_append_right _ (List.mem_of_getElem? (i := 805) (by decide +kernel))) rfl
theorem tw_806 : Cond.instanceMethod yX10_wipe ∈ pm_T := pm_in (List.mem_append_right _ (List.mem_of_getElem? (i := 806) (by decide +kernel))) rfl
theorem tw_807 : Cond.selects RX10 yX10_wipe yX10_wipe ∈ pm_T := pm_in (List.mem_append_right _ (List.mem_of_getElem? (i := 807) (by decide +kernel))) rfl
theorem vl_L_39 : pm_LV RL 39 yX10_wipe := ⟨tw_805, tw_806, tw_807⟩
theorem tw_304 : Cond.methodLink RL 40 yX9_fault ∈ pm_T := pm_in (List.mem_append_right _ (List.mem_of_getElem? (i := 304) (by decide +kernel))) rfl
theorem tw_305 : Cond.instanceMethod yX9_fault ∈ pm_T := pm_in (List.mem_append_right _ (List.mem_of_getElem? (i := 305) (by decide +kernel))) rfl
theorem tw_306 : Cond.selects RX9 yX9_fault yX9_fault ∈ pm_T := pm_in (List.mem_append_right _ (List.mem_of_getElem? (i := 306) (by decide +kernel))) rfl
theorem vl_L_40 : pm_LV RL 40 yX9_fault := ⟨tw_304, tw_305, tw_306⟩
theorem tw_809 : Cond.methodLink RL 43 yX10_fault ∈ pm_T := pm_in (List.mem_append_right _ (List.mem_of_getElem? (i := 809) (by decide +kernel))) rfl
theorem tw_810 : Cond.instanceMethod yX10_fault ∈ pm_T := pm_in (List.mem_append_right _ (List.mem_of_getElem? (i := 810) (by decide +kernel))) rfl
theorem tw_811 : Cond.selects RX10 yX10_fault yX10_fault ∈ pm_T := pm_in (List.mem_append_right _ (List.mem_of_getElem? (i := 811) (by decide +kernel))) rfl
theorem vl_L_43 : pm_LV RL 43 yX10_fault := ⟨tw_809, tw_810, tw_811⟩
theorem tw_319 : Cond.methodLink RL 44 yX9_judge ∈ pm_T := pm_in (List.mem_append_right _ (List.mem_of_getElem? (i := 319) (by decide +kernel))) rfl
theorem tw_320 : Cond.instanceMethod yX9_judge ∈ pm_T := pm_in (List.mem_append_right _ (List.mem_of_getElem? (i := 320) (by decide +kernel))) rfl
theorem tw_321 : Cond.selects RX9 yX9_judge yX9_judge ∈ pm_T := pm_in (List.mem_append_right _ (List.mem_of_getElem? (i := 321) (by decide +kernel))) rfl
theorem vl_L_44 : pm_LV RL 44 yX9_judge := ⟨tw_319, tw_320, tw_321⟩
theorem tw_820 : Cond.methodLink RL 47 yX10_judge ∈ pm_T := pm_in (List.mem_append_right _ (List.mem_of_getElem? (i := 820) (by decide +kernel))) rfl
theorem tw_821 : Cond.instanceMethod yX10_judge ∈ pm_T := pm_in (List.mem_append_right _ (List.mem_of_getElem? (i := 821) (by decide +kernel))) rfl
theorem tw_822 : Cond.selects RX10 yX10_judge yX10_judge ∈ pm_T := pm_in (List.mem_append_right _ (List.mem_of_getElem? (i := 822) (by decide +kernel))) rfl
theorem vl_L_47 : pm_LV RL 47 yX10_judge := ⟨tw_820, tw_821, tw_822⟩
theorem tw_437 : Cond.methodLink RL 48 yX9_done ∈ pm_T := pm_in (List.mem_append_right _ (List.mem_of_getElem? (i := 437) (by decide +kernel))) rfl
theorem tw_438 : Cond.instanceMethod yX9_done ∈ pm_T := pm_in (List.mem_append_right _ (List.mem_of_getElem? (i := 438) (by decide +kernel))) rfl
theorem tw_439 : Cond.selects RX9 yX9_done yX9_done ∈ pm_T := pm_in (List.mem_append_right _ (List.mem_of_getElem? (i := 439) (by decide +kernel))) rfl
theorem vl_L_48 : pm_LV RL 48 yX9_done := ⟨tw_437, tw_438, tw_439⟩
theorem tw_856 : Cond.methodLink RL 51 yX10_done ∈ pm_T := pm_in (List.mem_append_right _ (List.mem_of_getElem? (i := 856) (by decide +kernel))) rfl
theorem tw_857 : Cond.instanceMethod yX10_done ∈ pm_T := pm_in (List.mem_append_right _ (List.mem_of_getElem? (i := 857) (by decide +kernel))) rfl
theorem tw_858 : Cond.selects RX10 yX10_done yX10_done ∈ pm_T := pm_in (List.mem_append_right _ (List.mem_of_getElem? (i := 858) (by decide +kernel))) rfl
theorem vl_L_51 : pm_LV RL 51 yX10_done := ⟨tw_856, tw_857, tw_858⟩
theorem tw_442 : Cond.methodLink RL 52 yX9_behind ∈ pm_T := pm_in (List.mem_append_right _ (List.mem_of_getElem? (i := 442) (by decide +kernel))) rfl
theorem tw_443 : Cond.instanceMethod yX9_behind ∈ pm_T := pm_in (List.mem_append_right _ (List.mem_of_getElem? (i := 443) (by decide +kernel))) rfl
theorem tw_444 : Cond.selects RX9 yX9_behind yX9_behind ∈ pm_T := pm_in (List.mem_append_right _ (List.mem_of_getElem? (i := 444) (by decide +kernel))) rfl
theorem vl_L_52 : pm_LV RL 52 yX9_behind := ⟨tw_442, tw_443, tw_444⟩
theorem tw_864 : Cond.methodLink RL 56 yX10_behind ∈ pm_T := pm_in (List.mem_append_right _ (List.mem_of_getElem? (i := 864) (by decide +kernel))) rfl
theorem tw_865 : Cond.instanceMethod yX10_behind ∈ pm_T := pm_in (List.mem_append_right _ (List.mem_of_getElem? (i := 865) (by decide +kernel))) rfl
theorem tw_866 : Cond.selects RX10 yX10_behind yX10_behind ∈ pm_T := pm_in (List.mem_append_right _ (List.mem_of_getElem? (i := 866) (by decide +kernel))) rfl
theorem vl_L_56 : pm_LV RL 56 yX10_behind := ⟨tw_864, tw_865, tw_866⟩
theorem tw_447 : Cond.methodLink RL 57 yX9_goes ∈ pm_T := pm_in (List.mem_append_right _ (List.mem_of_getElem? (i := 447) (by decide +kernel))) rfl
theorem tw_448 : Cond.instanceMethod yX9_goes ∈ pm_T := pm_in (List.mem_append_right _ (List.mem_of_getElem? (i := 448) (by decide +kernel))) rfl
theorem tw_449 : Cond.selects RX9 yX9_goes yX9_goes ∈ pm_T := pm_in (List.mem_append_right _ (List.mem_of_getElem? (i := 449) (by decide +kernel))) rfl
theorem vl_L_57 : pm_LV RL 57 yX9_goes := ⟨tw_447, tw_448, tw_449⟩
theorem tw_868 : Cond.methodLink RL 60 yX10_goes ∈ pm_T := pm_in (List.mem_append_right _ (List.mem_of_getElem? (i := 868) (by decide +kernel))) rfl
theorem tw_869 : Cond.instanceMethod yX10_goes ∈ pm_T := pm_in (List.mem_append_right _ (List.mem_of_getElem? (i := 869) (by decide +kernel))) rfl
theorem tw_870 : Cond.selects RX10 yX10_goes yX10_goes ∈ pm_T := pm_in (List.mem_append_right _ (List.mem_of_getElem? (i := 870) (by decide +kernel))) rfl
theorem vl_L_60 : pm_LV RL 60 yX10_goes := ⟨tw_868, tw_869, tw_870⟩
theorem tw_452 : Cond.methodLink RL 61 yX9_then ∈ pm_T := pm_in (List.mem_append_right _ (List.mem_of_getElem? (i := 452) (by decide +kernel))) rfl
theorem tw_453 : Cond.instanceMethod yX9_then ∈ pm_T := pm_in (List.mem_append_right _ (List.mem_of_getElem? (i := 453) (by decide +kernel))) rfl
theorem tw_454 : Cond.selects RX9 yX9_then yX9_then ∈ pm_T := pm_in (List.mem_append_right _ (List.mem_of_getElem? (i := 454) (by decide +kernel))) rfl
theorem vl_L_61 : pm_LV RL 61 yX9_then := ⟨tw_452, tw_453, tw_454⟩
theorem tw_872 : Cond.methodLink RL 64 yX10_then ∈ pm_T := pm_in (List.mem_append_right _ (List.mem_of_getElem? (i := 872) (by decide +kernel))) rfl
theorem tw_873 : Cond.instanceMethod yX10_then ∈ pm_T := pm_in (List.mem_append_right _ (List.mem_of_getElem? (i := 873) (by decide +kernel))) rfl
theorem tw_874 : Cond.selects RX10 yX10_then yX10_then ∈ pm_T := pm_in (List.mem_append_right _ (List.mem_of_getElem? (i := 874) (by decide +kernel))) rfl
theorem vl_L_64 : pm_LV RL 64 yX10_then := ⟨tw_872, tw_873, tw_874⟩
theorem tw_464 : Cond.methodLink RL 65 yX9_round ∈ pm_T := pm_in (List.mem_append_right _ (List.mem_of_getElem? (i := 464) (by decide +kernel))) rfl
theorem tw_465 : Cond.instanceMethod yX9_round ∈ pm_T := pm_in (List.mem_append_right _ (List.mem_of_getElem? (i := 465) (by decide +kernel))) rfl
theorem tw_466 : Cond.selects RX9 yX9_round yX9_round ∈ pm_T := pm_in (List.mem_append_right _ (List.mem_of_getElem? (i := 466) (by decide +kernel))) rfl
theorem vl_L_65 : pm_LV RL 65 yX9_round := ⟨tw_464, tw_465, tw_466⟩
theorem tw_880 : Cond.methodLink RL 68 yX10_round ∈ pm_T := pm_in (List.mem_append_right _ (List.mem_of_getElem? (i := 880) (by decide +kernel))) rfl
theorem tw_881 : Cond.instanceMethod yX10_round ∈ pm_T := pm_in (List.mem_append_right _ (List.mem_of_getElem? (i := 881) (by decide +kernel))) rfl
theorem tw_882 : Cond.selects RX10 yX10_round yX10_round ∈ pm_T := pm_in (List.mem_append_right _ (List.mem_of_getElem? (i := 882) (by decide +kernel))) rfl
theorem vl_L_68 : pm_LV RL 68 yX10_round := ⟨tw_880, tw_881, tw_882⟩
theorem tw_485 : Cond.methodLink RL 69 yX9_mends ∈ pm_T := pm_in (List.mem_append_right _ (List.mem_of_getElem? (i := 485) (by decide +kernel))) rfl
theorem tw_486 : Cond.instanceMethod yX9_mends ∈ pm_T := pm_in (List.mem_append_right _ (List.mem_of_getElem? (i := 486) (by decide +kernel))) rfl
theorem tw_487 : Cond.selects RX9 yX9_mends yX9_mends ∈ pm_T := pm_in (List.mem_append_right _ (List.mem_of_getElem? (i := 487) (by decide +kernel))) rfl
theorem vl_L_69 : pm_LV RL 69 yX9_mends := ⟨tw_485, tw_486, tw_487⟩
theorem tw_889 : Cond.methodLink RL 72 yX10_mends ∈ pm_T := pm_in (List.mem_append_right _ (List.mem_of_getElem? (i := 889) (by decide +kernel))) rfl
theorem tw_890 : Cond.instanceMethod yX10_mends ∈ pm_T := pm_in (List.mem_append_right _ (List.mem_of_getElem? (i := 890) (by decide +kernel))) rfl
theorem tw_891 : Cond.selects RX10 yX10_mends yX10_mends ∈ pm_T := pm_in (List.mem_append_right _ (List.mem_of_getElem? (i := 891) (by decide +kernel))) rfl
theorem vl_L_72 : pm_LV RL 72 yX10_mends := ⟨tw_889, tw_890, tw_891⟩
theorem tw_507 : Cond.methodLink RL 73 yX9_steady ∈ pm_T := pm_in (List.mem_append_right _ (List.mem_of_getElem? (i := 507) (by decide +kernel))) rfl
theorem tw_508 : Cond.instanceMethod yX9_steady ∈ pm_T := pm_in (List.mem_append_right _ (List.mem_of_getElem? (i := 508) (by decide +kernel))) rfl
theorem tw_509 : Cond.selects RX9 yX9_steady yX9_steady ∈ pm_T := pm_in (List.mem_append_right _ (List.mem_of_getElem? (i := 509) (by decide +kernel))) rfl
theorem vl_L_73 : pm_LV RL 73 yX9_steady := ⟨tw_507, tw_508, tw_509⟩
theorem tw_896 : Cond.methodLink RL 76 yX10_steady ∈ pm_T := pm_in (List.mem_append_right _ (List.mem_of_getElem? (i := 896) (by decide +kernel))) rfl
theorem tw_897 : Cond.instanceMethod yX10_steady ∈ pm_T := pm_in (List.mem_append_right _ (List.mem_of_getElem? (i := 897) (by decide +kernel))) rfl
theorem tw_898 : Cond.selects RX10 yX10_steady yX10_steady ∈ pm_T := pm_in (List.mem_append_right _ (List.mem_of_getElem? (i := 898) (by decide +kernel))) rfl
theorem vl_L_76 : pm_LV RL 76 yX10_steady := ⟨tw_896, tw_897, tw_898⟩
theorem tw_536 : Cond.methodLink RL 77 yX9_wed ∈ pm_T := pm_in (List.mem_append_right _ (List.mem_of_getElem? (i := 536) (by decide +kernel))) rfl
theorem tw_537 : Cond.instanceMethod yX9_wed ∈ pm_T := pm_in (List.mem_append_right _ (List.mem_of_getElem? (i := 537) (by decide +kernel))) rfl
theorem tw_538 : Cond.selects RX9 yX9_wed yX9_wed ∈ pm_T := pm_in (List.mem_append_right _ (List.mem_of_getElem? (i := 538) (by decide +kernel))) rfl
theorem vl_L_77 : pm_LV RL 77 yX9_wed := ⟨tw_536, tw_537, tw_538⟩
theorem tw_912 : Cond.methodLink RL 80 yX10_wed ∈ pm_T := pm_in (List.mem_append_right _ (List.mem_of_getElem? (i := 912) (by decide +kernel))) rfl
theorem tw_913 : Cond.instanceMethod yX10_wed ∈ pm_T := pm_in (List.mem_append_right _ (List.mem_of_getElem? (i := 913) (by decide +kernel))) rfl
theorem tw_914 : Cond.selects RX10 yX10_wed yX10_wed ∈ pm_T := pm_in (List.mem_append_right _ (List.mem_of_getElem? (i := 914) (by decide +kernel))) rfl
theorem vl_L_80 : pm_LV RL 80 yX10_wed := ⟨tw_912, tw_913, tw_914⟩
theorem tw_549 : Cond.methodLink RL 81 yX9_seen ∈ pm_T := pm_in (List.mem_append_right _ (List.mem_of_getElem? (i := 549) (by decide +kernel))) rfl
theorem tw_550 : Cond.instanceMethod yX9_seen ∈ pm_T := pm_in (List.mem_append_right _ (List.mem_of_getElem? (i := 550) (by decide +kernel))) rfl
theorem tw_551 : Cond.selects RX9 yX9_seen yX9_seen ∈ pm_T := pm_in (List.mem_append_right _ (List.mem_of_getElem? (i := 551) (by decide +kernel))) rfl
theorem vl_L_81 : pm_LV RL 81 yX9_seen := ⟨tw_549, tw_550, tw_551⟩
theorem tw_916 : Cond.methodLink RL 85 yX10_seen ∈ pm_T := pm_in (List.mem_append_right _ (List.mem_of_getElem? (i := 916) (by decide +kernel))) rfl
theorem tw_917 : Cond.instanceMethod yX10_seen ∈ pm_T := pm_in (List.mem_append_right _ (List.mem_of_getElem? (i := 917) (by decide +kernel))) rfl
theorem tw_918 : Cond.selects RX10 yX10_seen yX10_seen ∈ pm_T := pm_in (List.mem_append_right _ (List.mem_of_getElem? (i := 918) (by decide +kernel))) rfl
theorem vl_L_85 : pm_LV RL 85 yX10_seen := ⟨tw_916, tw_917, tw_918⟩
theorem tw_563 : Cond.methodLink RL 86 yX9_forget ∈ pm_T := pm_in (List.mem_append_right _ (List.mem_of_getElem? (i := 563) (by decide +kernel))) rfl
theorem tw_564 : Cond.instanceMethod yX9_forget ∈ pm_T := pm_in (List.mem_append_right _ (List.mem_of_getElem? (i := 564) (by decide +kernel))) rfl
theorem tw_565 : Cond.selects RX9 yX9_forget yX9_forget ∈ pm_T := pm_in (List.mem_append_right _ (List.mem_of_getElem? (i := 565) (by decide +kernel))) rfl
theorem vl_L_86 : pm_LV RL 86 yX9_forget := ⟨tw_563, tw_564, tw_565⟩
theorem tw_920 : Cond.methodLink RL 89 yX10_forget ∈ pm_T := pm_in (List.mem_append_right _ (List.mem_of_getElem? (i := 920) (by decide +kernel))) rfl
theorem tw_921 : Cond.instanceMethod yX10_forget ∈ pm_T := pm_in (List.mem_append_right _ (List.mem_of_getElem? (i := 921) (by decide +kernel))) rfl
theorem tw_922 : Cond.selects RX10 yX10_forget yX10_forget ∈ pm_T := pm_in (List.mem_append_right _ (List.mem_of_getElem? (i := 922) (by decide +kernel))) rfl
theorem vl_L_89 : pm_LV RL 89 yX10_forget := ⟨tw_920, tw_921, tw_922⟩
theorem tw_568 : Cond.methodLink RL 90 yX9_posts ∈ pm_T := pm_in (List.mem_append_right _ (List.mem_of_getElem? (i := 568) (by decide +kernel))) rfl
theorem tw_569 : Cond.instanceMethod yX9_posts ∈ pm_T := pm_in (List.mem_append_right _ (List.mem_of_getElem? (i := 569) (by decide +kernel))) rfl
theorem tw_570 : Cond.selects RX9 yX9_posts yX9_posts ∈ pm_T := pm_in (List.mem_append_right _ (List.mem_of_getElem? (i := 570) (by decide +kernel))) rfl
theorem vl_L_90 : pm_LV RL 90 yX9_posts := ⟨tw_568, tw_569, tw_570⟩
theorem tw_924 : Cond.methodLink RL 93 yX10_posts ∈ pm_T := pm_in (List.mem_append_right _ (List.mem_of_getElem? (i := 924) (by decide +kernel))) rfl
theorem tw_925 : Cond.instanceMethod yX10_posts ∈ pm_T := pm_in (List.mem_append_right _ (List.mem_of_getElem? (i := 925) (by decide +kernel))) rfl
theorem tw_926 : Cond.selects RX10 yX10_posts yX10_posts ∈ pm_T := pm_in (List.mem_append_right _ (List.mem_of_getElem? (i := 926) (by decide +kernel))) rfl
theorem vl_L_93 : pm_LV RL 93 yX10_posts := ⟨tw_924, tw_925, tw_926⟩
theorem tw_576 : Cond.methodLink RL 94 yX9_ask ∈ pm_T := pm_in (List.mem_append_right _ (List.mem_of_getElem? (i := 576) (by decide +kernel))) rfl
theorem tw_577 : Cond.instanceMethod yX9_ask ∈ pm_T := pm_in (List.mem_append_right _ (List.mem_of_getElem? (i := 577) (by decide +kernel))) rfl
theorem tw_578 : Cond.selects RX9 yX9_ask yX9_ask ∈ pm_T := pm_in (List.mem_append_right _ (List.mem_of_getElem? (i := 578) (by decide +kernel))) rfl
theorem vl_L_94 : pm_LV RL 94 yX9_ask := ⟨tw_576, tw_577, tw_578⟩
theorem tw_935 : Cond.methodLink RL 97 yX10_ask ∈ pm_T := pm_in (List.mem_append_right _ (List.mem_of_getElem? (i := 935) (by decide +kernel))) rfl
theorem tw_936 : Cond.instanceMethod yX10_ask ∈ pm_T := pm_in (List.mem_append_right _ (List.mem_of_getElem? (i := 936) (by decide +kernel))) rfl
theorem tw_937 : Cond.selects RX10 yX10_ask yX10_ask ∈ pm_T := pm_in (List.mem_append_right _ (List.mem_of_getElem? (i := 937) (by decide +kernel))) rfl
theorem vl_L_97 : pm_LV RL 97 yX10_ask := ⟨tw_935, tw_936, tw_937⟩
theorem tw_594 : Cond.methodLink RL 98 yX9_heaps ∈ pm_T := pm_in (List.mem_append_right _ (List.mem_of_getElem? (i := 594) (by decide +kernel))) rfl
theorem tw_595 : Cond.instanceMethod yX9_heaps ∈ pm_T := pm_in (List.mem_append_right _ (List.mem_of_getElem? (i := 595) (by decide +kernel))) rfl
theorem tw_596 : Cond.selects RX9 yX9_heaps yX9_heaps ∈ pm_T := pm_in (List.mem_append_right _ (List.mem_of_getElem? (i := 596) (by decide +kernel))) rfl
theorem vl_L_98 : pm_LV RL 98 yX9_heaps := ⟨tw_594, tw_595, tw_596⟩
theorem tw_939 : Cond.methodLink RL 101 yX10_heaps ∈ pm_T := pm_in (List.mem_append_right _ (List.mem_of_getElem? (i := 939) (by decide +kernel))) rfl
theorem tw_940 : Cond.instanceMethod yX10_heaps ∈ pm_T := pm_in (List.mem_append_right _ (List.mem_of_getElem? (i := 940) (by decide +kernel))) rfl
theorem tw_941 : Cond.selects RX10 yX10_heaps yX10_heaps ∈ pm_T := pm_in (List.mem_append_right _ (List.mem_of_getElem? (i := 941) (by decide +kernel))) rfl
theorem vl_L_101 : pm_LV RL 101 yX10_heaps := ⟨tw_939, tw_940, tw_941⟩
theorem tw_602 : Cond.methodLink RL 102 yX9_gust ∈ pm_T := pm_in (List.mem_append_right _ (List.mem_of_getElem? (i := 602) (by decide +kernel))) rfl
theorem tw_603 : Cond.instanceMethod yX9_gust ∈ pm_T := pm_in (List.mem_append_right _ (List.mem_of_getElem? (i := 603) (by decide +kernel))) rfl
theorem tw_604 : Cond.selects RX9 yX9_gust yX9_gust ∈ pm_T := pm_in (List.mem_append_right _ (List.mem_of_getElem? (i := 604) (by decide +kernel))) rfl
theorem vl_L_102 : pm_LV RL 102 yX9_gust := ⟨tw_602, tw_603, tw_604⟩
theorem tw_947 : Cond.methodLink RL 106 yX10_gust ∈ pm_T := pm_in (List.mem_append_right _ (List.mem_of_getElem? (i := 947) (by decide +kernel))) rfl
theorem tw_948 : Cond.instanceMethod yX10_gust ∈ pm_T := pm_in (List.mem_append_right _ (List.mem_of_getElem? (i := 948) (by decide +kernel))) rfl
theorem tw_949 : Cond.selects RX10 yX10_gust yX10_gust ∈ pm_T := pm_in (List.mem_append_right _ (List.mem_of_getElem? (i := 949) (by decide +kernel))) rfl
theorem vl_L_106 : pm_LV RL 106 yX10_gust := ⟨tw_947, tw_948, tw_949⟩
theorem tw_624 : Cond.methodLink RL 107 yX9_year ∈ pm_T := pm_in (List.mem_append_right _ (List.mem_of_getElem? (i := 624) (by decide +kernel))) rfl
theorem tw_625 : Cond.instanceMethod yX9_year ∈ pm_T := pm_in (List.mem_append_right _ (List.mem_of_getElem? (i := 625) (by decide +kernel))) rfl
theorem tw_626 : Cond.selects RX9 yX9_year yX9_year ∈ pm_T := pm_in (List.mem_append_right _ (List.mem_of_getElem? (i := 626) (by decide +kernel))) rfl
theorem vl_L_107 : pm_LV RL 107 yX9_year := ⟨tw_624, tw_625, tw_626⟩
theorem tw_955 : Cond.methodLink RL 110 yX10_year ∈ pm_T := pm_in (List.mem_append_right _ (List.mem_of_getElem? (i := 955) (by decide +kernel))) rfl
theorem tw_956 : Cond.instanceMethod yX10_year ∈ pm_T := pm_in (List.mem_append_right _ (List.mem_of_getElem? (i := 956) (by decide +kernel))) rfl
theorem tw_957 : Cond.selects RX10 yX10_year yX10_year ∈ pm_T := pm_in (List.mem_append_right _ (List.mem_of_getElem? (i := 957) (by decide +kernel))) rfl
theorem vl_L_110 : pm_LV RL 110 yX10_year := ⟨tw_955, tw_956, tw_957⟩
theorem tw_644 : Cond.methodLink RL 111 yX9_image ∈ pm_T := pm_in (List.mem_append_right _ (List.mem_of_getElem? (i := 644) (by decide +kernel))) rfl
theorem tw_645 : Cond.instanceMethod yX9_image ∈ pm_T := pm_in (List.mem_append_right _ (List.mem_of_getElem? (i := 645) (by decide +kernel))) rfl
theorem tw_646 : Cond.selects RX9 yX9_image yX9_image ∈ pm_T := pm_in (List.mem_append_right _ (List.mem_of_getElem? (i := 646) (by decide +kernel))) rfl
theorem vl_L_111 : pm_LV RL 111 yX9_image := ⟨tw_644, tw_645, tw_646⟩
theorem tw_960 : Cond.methodLink RL 114 yX10_image ∈ pm_T := pm_in (List.mem_append_right _ (List.mem_of_getElem? (i := 960) (by decide +kernel))) rfl
theorem tw_961 : Cond.instanceMethod yX10_image ∈ pm_T := pm_in (List.mem_append_right _ (List.mem_of_getElem? (i := 961) (by decide +kernel))) rfl
theorem tw_962 : Cond.selects RX10 yX10_image yX10_image ∈ pm_T := pm_in (List.mem_append_right _ (List.mem_of_getElem? (i := 962) (by decide +kernel))) rfl
theorem vl_L_114 : pm_LV RL 114 yX10_image := ⟨tw_960, tw_961, tw_962⟩
theorem tw_663 : Cond.methodLink RL 115 yX9_restore ∈ pm_T := pm_in (List.mem_append_right _ (List.mem_of_getElem? (i := 663) (by decide +kernel))) rfl
theorem tw_664 : Cond.instanceMethod yX9_restore ∈ pm_T := pm_in (List.mem_append_right _ (List.mem_of_getElem? (i := 664) (by decide +kernel))) rfl
theorem tw_665 : Cond.selects RX9 yX9_restore yX9_restore ∈ pm_T := pm_in (List.mem_append_right _ (List.mem_of_getElem? (i := 665) (by decide +kernel))) rfl
theorem vl_L_115 : pm_LV RL 115 yX9_restore := ⟨tw_663, tw_664, tw_665⟩
theorem tw_964 : Cond.methodLink RL 118 yX10_restore ∈ pm_T := pm_in (List.mem_append_right _ (List.mem_of_getElem? (i := 964) (by decide +kernel))) rfl
theorem tw_965 : Cond.instanceMethod yX10_restore ∈ pm_T := pm_in (List.mem_append_right _ (List.mem_of_getElem? (i := 965) (by decide +kernel))) rfl
theorem tw_966 : Cond.selects RX10 yX10_restore yX10_restore ∈ pm_T := pm_in (List.mem_append_right _ (List.mem_of_getElem? (i := 966) (by decide +kernel))) rfl
theorem vl_L_118 : pm_LV RL 118 yX10_restore := ⟨tw_964, tw_965, tw_966⟩
theorem tw_667 : Cond.methodLink RL 119 yX9_told ∈ pm_T := pm_in (List.mem_append_right _ (List.mem_of_getElem? (i := 667) (by decide +kernel))) rfl
theorem tw_668 : Cond.instanceMethod yX9_told ∈ pm_T := pm_in (List.mem_append_right _ (List.mem_of_getElem? (i := 668) (by decide +kernel))) rfl
theorem tw_669 : Cond.selects RX9 yX9_told yX9_told ∈ pm_T := pm_in (List.mem_append_right _ (List.mem_of_getElem? (i := 669) (by decide +kernel))) rfl
theorem vl_L_119 : pm_LV RL 119 yX9_told := ⟨tw_667, tw_668, tw_669⟩
theorem tw_968 : Cond.methodLink RL 122 yX10_told ∈ pm_T := pm_in (List.mem_append_right _ (List.mem_of_getElem? (i := 968) (by decide +kernel))) rfl
theorem tw_969 : Cond.instanceMethod yX10_told ∈ pm_T := pm_in (List.mem_append_right _ (List.mem_of_getElem? (i := 969) (by decide +kernel))) rfl
theorem tw_970 : Cond.selects RX10 yX10_told yX10_told ∈ pm_T := pm_in (List.mem_append_right _ (List.mem_of_getElem? (i := 970) (by decide +kernel))) rfl
theorem vl_L_122 : pm_LV RL 122 yX10_told := ⟨tw_968, tw_969, tw_970⟩
theorem tw_56 : Cond.arrayClass .int ∈ pm_T := pm_in (List.mem_append_right _ (List.mem_of_getElem? (i := 56) (by decide +kernel))) rfl
theorem tw_766 : Cond.arrayClass .boolean ∈ pm_T := pm_in (List.mem_append_right _ (List.mem_of_getElem? (i := 766) (by decide +kernel))) rfl
theorem ar_int : Cond.arrayClass .int ∈ pm_T := tw_56
theorem ar_bool : Cond.arrayClass .boolean ∈ pm_T := tw_766
