theorem dX0_power_0 : decode cX0_power 0 = .ok (.lconst 1, 1) := by decide +kernel
theorem dX0_power_1 : decode cX0_power 1 = .ok (.lstore_n 2, 1) := by decide +kernel
theorem dX0_power_2 : decode cX0_power 2 = .ok (.iconst 0, 1) := by decide +kernel
theorem dX0_power_3 : decode cX0_power 3 = .ok (.istore 4, 2) := by decide +kernel
theorem dX0_power_5 : decode cX0_power 5 = .ok (.iload 4, 2) := by decide +kernel
theorem dX0_power_7 : decode cX0_power 7 = .ok (.iload_n 1, 1) := by decide +kernel
theorem dX0_power_8 : decode cX0_power 8 = .ok (.if_icmp .ge 14, 3) := by decide +kernel
theorem dX0_power_11 : decode cX0_power 11 = .ok (.lload_n 2, 1) := by decide +kernel
theorem dX0_power_12 : decode cX0_power 12 = .ok (.iload_n 0, 1) := by decide +kernel
theorem dX0_power_13 : decode cX0_power 13 = .ok (.i2l, 1) := by decide +kernel
theorem dX0_power_14 : decode cX0_power 14 = .ok (.lmul, 1) := by decide +kernel
theorem dX0_power_15 : decode cX0_power 15 = .ok (.lstore_n 2, 1) := by decide +kernel
theorem dX0_power_16 : decode cX0_power 16 = .ok (.iinc 4 1, 3) := by decide +kernel
theorem dX0_power_19 : decode cX0_power 19 = .ok (.goto (-14), 3) := by decide +kernel
theorem dX0_power_22 : decode cX0_power 22 = .ok (.lload_n 2, 1) := by decide +kernel
theorem dX0_power_23 : decode cX0_power 23 = .ok (.lreturn, 1) := by decide +kernel
theorem dX0_waysOfJust_0 : decode cX0_waysOfJust 0 = .ok (.iload_n 1, 1) := by decide +kernel
theorem dX0_waysOfJust_1 : decode cX0_waysOfJust 1 = .ok (.iload_n 0, 1) := by decide +kernel
theorem dX0_waysOfJust_2 : decode cX0_waysOfJust 2 = .ok (.invokestatic 7, 3) := by decide +kernel
theorem dX0_waysOfJust_5 : decode cX0_waysOfJust 5 = .ok (.iload_n 1, 1) := by decide +kernel
theorem dX0_waysOfJust_6 : decode cX0_waysOfJust 6 = .ok (.iconst 1, 1) := by decide +kernel
theorem dX0_waysOfJust_7 : decode cX0_waysOfJust 7 = .ok (.isub, 1) := by decide +kernel
theorem dX0_waysOfJust_8 : decode cX0_waysOfJust 8 = .ok (.iload_n 0, 1) := by decide +kernel
theorem dX0_waysOfJust_9 : decode cX0_waysOfJust 9 = .ok (.invokestatic 7, 3) := by decide +kernel
theorem dX0_waysOfJust_12 : decode cX0_waysOfJust 12 = .ok (.lsub, 1) := by decide +kernel
theorem dX0_waysOfJust_13 : decode cX0_waysOfJust 13 = .ok (.lreturn, 1) := by decide +kernel
theorem dX0_sumOfStrongest_0 : decode cX0_sumOfStrongest 0 = .ok (.lconst 0, 1) := by decide +kernel
theorem dX0_sumOfStrongest_1 : decode cX0_sumOfStrongest 1 = .ok (.lstore_n 2, 1) := by decide +kernel
theorem dX0_sumOfStrongest_2 : decode cX0_sumOfStrongest 2 = .ok (.iconst 1, 1) := by decide +kernel
theorem dX0_sumOfStrongest_3 : decode cX0_sumOfStrongest 3 = .ok (.istore 4, 2) := by decide +kernel
theorem dX0_sumOfStrongest_5 : decode cX0_sumOfStrongest 5 = .ok (.iload 4, 2) := by decide +kernel
theorem dX0_sumOfStrongest_7 : decode cX0_sumOfStrongest 7 = .ok (.iload_n 1, 1) := by decide +kernel
theorem dX0_sumOfStrongest_8 : decode cX0_sumOfStrongest 8 = .ok (.if_icmp .gt 22, 3) := by decide +kernel
theorem dX0_sumOfStrongest_11 : decode cX0_sumOfStrongest 11 = .ok (.lload_n 2, 1) := by decide +kernel
theorem dX0_sumOfStrongest_12 : decode cX0_sumOfStrongest 12 = .ok (.iload 4, 2) := by decide +kernel
theorem dX0_sumOfStrongest_14 : decode cX0_sumOfStrongest 14 = .ok (.i2l, 1) := by decide +kernel
theorem dX0_sumOfStrongest_15 : decode cX0_sumOfStrongest 15 = .ok (.iload_n 0, 1) := by decide +kernel
theorem dX0_sumOfStrongest_16 : decode cX0_sumOfStrongest 16 = .ok (.iload 4, 2) := by decide +kernel
theorem dX0_sumOfStrongest_18 : decode cX0_sumOfStrongest 18 = .ok (.invokestatic 13, 3) := by decide +kernel
theorem dX0_sumOfStrongest_21 : decode cX0_sumOfStrongest 21 = .ok (.lmul, 1) := by decide +kernel
theorem dX0_sumOfStrongest_22 : decode cX0_sumOfStrongest 22 = .ok (.ladd, 1) := by decide +kernel
theorem dX0_sumOfStrongest_23 : decode cX0_sumOfStrongest 23 = .ok (.lstore_n 2, 1) := by decide +kernel
theorem dX0_sumOfStrongest_24 : decode cX0_sumOfStrongest 24 = .ok (.iinc 4 1, 3) := by decide +kernel
theorem dX0_sumOfStrongest_27 : decode cX0_sumOfStrongest 27 = .ok (.goto (-22), 3) := by decide +kernel
theorem dX0_sumOfStrongest_30 : decode cX0_sumOfStrongest 30 = .ok (.lload_n 2, 1) := by decide +kernel
theorem dX0_sumOfStrongest_31 : decode cX0_sumOfStrongest 31 = .ok (.lreturn, 1) := by decide +kernel
theorem dX0_partInLowestTerms_0 : decode cX0_partInLowestTerms 0 = .ok (.lload_n 0, 1) := by decide +kernel
theorem dX0_partInLowestTerms_1 : decode cX0_partInLowestTerms 1 = .ok (.lload_n 2, 1) := by decide +kernel
theorem dX0_partInLowestTerms_2 : decode cX0_partInLowestTerms 2 = .ok (.invokestatic 16, 3) := by decide +kernel
theorem dX0_partInLowestTerms_5 : decode cX0_partInLowestTerms 5 = .ok (.lstore 5, 2) := by decide +kernel
theorem dX0_partInLowestTerms_7 : decode cX0_partInLowestTerms 7 = .ok (.iload 4, 2) := by decide +kernel
theorem dX0_partInLowestTerms_9 : decode cX0_partInLowestTerms 9 = .ok (.ifCond .ne 7, 3) := by decide +kernel
theorem dX0_partInLowestTerms_12 : decode cX0_partInLowestTerms 12 = .ok (.lload_n 0, 1) := by decide +kernel
theorem dX0_partInLowestTerms_13 : decode cX0_partInLowestTerms 13 = .ok (.goto 4, 3) := by decide +kernel
theorem dX0_partInLowestTerms_16 : decode cX0_partInLowestTerms 16 = .ok (.lload_n 2, 1) := by decide +kernel
theorem dX0_partInLowestTerms_17 : decode cX0_partInLowestTerms 17 = .ok (.lstore 7, 2) := by decide +kernel
theorem dX0_partInLowestTerms_19 : decode cX0_partInLowestTerms 19 = .ok (.lload 5, 2) := by decide +kernel
theorem dX0_partInLowestTerms_21 : decode cX0_partInLowestTerms 21 = .ok (.lconst 1, 1) := by decide +kernel
theorem dX0_partInLowestTerms_22 : decode cX0_partInLowestTerms 22 = .ok (.lcmp, 1) := by decide +kernel
theorem dX0_partInLowestTerms_23 : decode cX0_partInLowestTerms 23 = .ok (.ifCond .le 11, 3) := by decide +kernel
theorem dX0_partInLowestTerms_26 : decode cX0_partInLowestTerms 26 = .ok (.lload 7, 2) := by decide +kernel
theorem dX0_partInLowestTerms_28 : decode cX0_partInLowestTerms 28 = .ok (.lload 5, 2) := by decide +kernel
theorem dX0_partInLowestTerms_30 : decode cX0_partInLowestTerms 30 = .ok (.ldiv, 1) := by decide +kernel
theorem dX0_partInLowestTerms_31 : decode cX0_partInLowestTerms 31 = .ok (.goto 5, 3) := by decide +kernel
theorem dX0_partInLowestTerms_34 : decode cX0_partInLowestTerms 34 = .ok (.lload 7, 2) := by decide +kernel
theorem dX0_partInLowestTerms_36 : decode cX0_partInLowestTerms 36 = .ok (.lreturn, 1) := by decide +kernel
theorem dX0_greatestCommon_0 : decode cX0_greatestCommon 0 = .ok (.lload_n 0, 1) := by decide +kernel
theorem dX0_greatestCommon_1 : decode cX0_greatestCommon 1 = .ok (.lstore 4, 2) := by decide +kernel
theorem dX0_greatestCommon_3 : decode cX0_greatestCommon 3 = .ok (.lload_n 2, 1) := by decide +kernel
theorem dX0_greatestCommon_4 : decode cX0_greatestCommon 4 = .ok (.lstore 6, 2) := by decide +kernel
theorem dX0_greatestCommon_6 : decode cX0_greatestCommon 6 = .ok (.iconst 0, 1) := by decide +kernel
theorem dX0_greatestCommon_7 : decode cX0_greatestCommon 7 = .ok (.istore 8, 2) := by decide +kernel
theorem dX0_greatestCommon_9 : decode cX0_greatestCommon 9 = .ok (.iload 8, 2) := by decide +kernel
theorem dX0_greatestCommon_11 : decode cX0_greatestCommon 11 = .ok (.bipush 100, 2) := by decide +kernel
theorem dX0_greatestCommon_13 : decode cX0_greatestCommon 13 = .ok (.if_icmp .ge 31, 3) := by decide +kernel
theorem dX0_greatestCommon_16 : decode cX0_greatestCommon 16 = .ok (.lload 6, 2) := by decide +kernel
theorem dX0_greatestCommon_18 : decode cX0_greatestCommon 18 = .ok (.lconst 0, 1) := by decide +kernel
theorem dX0_greatestCommon_19 : decode cX0_greatestCommon 19 = .ok (.lcmp, 1) := by decide +kernel
theorem dX0_greatestCommon_20 : decode cX0_greatestCommon 20 = .ok (.ifCond .eq 24, 3) := by decide +kernel
theorem dX0_greatestCommon_23 : decode cX0_greatestCommon 23 = .ok (.lload 4, 2) := by decide +kernel
theorem dX0_greatestCommon_25 : decode cX0_greatestCommon 25 = .ok (.lload 6, 2) := by decide +kernel
theorem dX0_greatestCommon_27 : decode cX0_greatestCommon 27 = .ok (.lrem, 1) := by decide +kernel
theorem dX0_greatestCommon_28 : decode cX0_greatestCommon 28 = .ok (.lstore 9, 2) := by decide +kernel
theorem dX0_greatestCommon_30 : decode cX0_greatestCommon 30 = .ok (.lload 6, 2) := by decide +kernel
theorem dX0_greatestCommon_32 : decode cX0_greatestCommon 32 = .ok (.lstore 4, 2) := by decide +kernel
theorem dX0_greatestCommon_34 : decode cX0_greatestCommon 34 = .ok (.lload 9, 2) := by decide +kernel
theorem dX0_greatestCommon_36 : decode cX0_greatestCommon 36 = .ok (.lstore 6, 2) := by decide +kernel
theorem dX0_greatestCommon_38 : decode cX0_greatestCommon 38 = .ok (.iinc 8 1, 3) := by decide +kernel
theorem dX0_greatestCommon_41 : decode cX0_greatestCommon 41 = .ok (.goto (-32), 3) := by decide +kernel
theorem dX0_greatestCommon_44 : decode cX0_greatestCommon 44 = .ok (.lload 4, 2) := by decide +kernel
theorem dX0_greatestCommon_46 : decode cX0_greatestCommon 46 = .ok (.lreturn, 1) := by decide +kernel
theorem dX1_init_0 : decode cX1_init 0 = .ok (.aload_n 0, 1) := by decide +kernel
theorem dX1_init_1 : decode cX1_init 1 = .ok (.invokespecial 3, 3) := by decide +kernel
theorem dX1_init_4 : decode cX1_init 4 = .ok (.aload_n 0, 1) := by decide +kernel
theorem dX1_init_5 : decode cX1_init 5 = .ok (.bipush 8, 2) := by decide +kernel
theorem dX1_init_7 : decode cX1_init 7 = .ok (.newarray .int, 2) := by decide +kernel
theorem dX1_init_9 : decode cX1_init 9 = .ok (.putfield 9, 3) := by decide +kernel
theorem dX1_init_12 : decode cX1_init 12 = .ok (.aload_n 0, 1) := by decide +kernel
theorem dX1_init_13 : decode cX1_init 13 = .ok (.bipush 32, 2) := by decide +kernel
theorem dX1_init_15 : decode cX1_init 15 = .ok (.newarray .int, 2) := by decide +kernel
theorem dX1_init_17 : decode cX1_init 17 = .ok (.putfield 15, 3) := by decide +kernel
theorem dX1_init_20 : decode cX1_init 20 = .ok (.iconst 0, 1) := by decide +kernel
theorem dX1_init_21 : decode cX1_init 21 = .ok (.istore_n 1, 1) := by decide +kernel
theorem dX1_init_22 : decode cX1_init 22 = .ok (.iload_n 1, 1) := by decide +kernel
theorem dX1_init_23 : decode cX1_init 23 = .ok (.bipush 8, 2) := by decide +kernel
theorem dX1_init_25 : decode cX1_init 25 = .ok (.if_icmp .ge 17, 3) := by decide +kernel
theorem dX1_init_28 : decode cX1_init 28 = .ok (.aload_n 0, 1) := by decide +kernel
theorem dX1_init_29 : decode cX1_init 29 = .ok (.getfield 9, 3) := by decide +kernel
theorem dX1_init_32 : decode cX1_init 32 = .ok (.iload_n 1, 1) := by decide +kernel
theorem dX1_init_33 : decode cX1_init 33 = .ok (.bipush 123, 2) := by decide +kernel
theorem dX1_init_35 : decode cX1_init 35 = .ok (.iastore, 1) := by decide +kernel
theorem dX1_init_36 : decode cX1_init 36 = .ok (.iinc 1 1, 3) := by decide +kernel
theorem dX1_init_39 : decode cX1_init 39 = .ok (.goto (-17), 3) := by decide +kernel
theorem dX1_init_42 : decode cX1_init 42 = .ok (.iconst 0, 1) := by decide +kernel
theorem dX1_init_43 : decode cX1_init 43 = .ok (.istore_n 1, 1) := by decide +kernel
theorem dX1_init_44 : decode cX1_init 44 = .ok (.iload_n 1, 1) := by decide +kernel
theorem dX1_init_45 : decode cX1_init 45 = .ok (.bipush 32, 2) := by decide +kernel
theorem dX1_init_47 : decode cX1_init 47 = .ok (.if_icmp .ge 18, 3) := by decide +kernel
theorem dX1_init_50 : decode cX1_init 50 = .ok (.aload_n 0, 1) := by decide +kernel
theorem dX1_init_51 : decode cX1_init 51 = .ok (.getfield 15, 3) := by decide +kernel
theorem dX1_init_54 : decode cX1_init 54 = .ok (.iload_n 1, 1) := by decide +kernel
theorem dX1_init_55 : decode cX1_init 55 = .ok (.iload_n 1, 1) := by decide +kernel
theorem dX1_init_56 : decode cX1_init 56 = .ok (.iconst 4, 1) := by decide +kernel
theorem dX1_init_57 : decode cX1_init 57 = .ok (.irem, 1) := by decide +kernel
theorem dX1_init_58 : decode cX1_init 58 = .ok (.iastore, 1) := by decide +kernel
theorem dX1_init_59 : decode cX1_init 59 = .ok (.iinc 1 1, 3) := by decide +kernel
theorem dX1_init_62 : decode cX1_init 62 = .ok (.goto (-18), 3) := by decide +kernel
theorem dX1_init_65 : decode cX1_init 65 = .ok (.return_, 1) := by decide +kernel
theorem dX1_copyFrom_0 : decode cX1_copyFrom 0 = .ok (.aload_n 1, 1) := by decide +kernel
theorem dX1_copyFrom_1 : decode cX1_copyFrom 1 = .ok (.getfield 9, 3) := by decide +kernel
theorem dX1_copyFrom_4 : decode cX1_copyFrom 4 = .ok (.iconst 0, 1) := by decide +kernel
theorem dX1_copyFrom_5 : decode cX1_copyFrom 5 = .ok (.aload_n 0, 1) := by decide +kernel
theorem dX1_copyFrom_6 : decode cX1_copyFrom 6 = .ok (.getfield 9, 3) := by decide +kernel
theorem dX1_copyFrom_9 : decode cX1_copyFrom 9 = .ok (.iconst 0, 1) := by decide +kernel
theorem dX1_copyFrom_10 : decode cX1_copyFrom 10 = .ok (.bipush 8, 2) := by decide +kernel
theorem dX1_copyFrom_12 : decode cX1_copyFrom 12 = .ok (.invokestatic 18, 3) := by decide +kernel
theorem dX1_copyFrom_15 : decode cX1_copyFrom 15 = .ok (.aload_n 1, 1) := by decide +kernel
theorem dX1_copyFrom_16 : decode cX1_copyFrom 16 = .ok (.getfield 15, 3) := by decide +kernel
theorem dX1_copyFrom_19 : decode cX1_copyFrom 19 = .ok (.iconst 0, 1) := by decide +kernel
theorem dX1_copyFrom_20 : decode cX1_copyFrom 20 = .ok (.aload_n 0, 1) := by decide +kernel
theorem dX1_copyFrom_21 : decode cX1_copyFrom 21 = .ok (.getfield 15, 3) := by decide +kernel
theorem dX1_copyFrom_24 : decode cX1_copyFrom 24 = .ok (.iconst 0, 1) := by decide +kernel
theorem dX1_copyFrom_25 : decode cX1_copyFrom 25 = .ok (.bipush 32, 2) := by decide +kernel
theorem dX1_copyFrom_27 : decode cX1_copyFrom 27 = .ok (.invokestatic 18, 3) := by decide +kernel
theorem dX1_copyFrom_30 : decode cX1_copyFrom 30 = .ok (.return_, 1) := by decide +kernel
theorem dX1_isRow_0 : decode cX1_isRow 0 = .ok (.iload_n 0, 1) := by decide +kernel
theorem dX1_isRow_1 : decode cX1_isRow 1 = .ok (.bipush 123, 2) := by decide +kernel
theorem dX1_isRow_3 : decode cX1_isRow 3 = .ok (.if_icmp .lt 10, 3) := by decide +kernel
theorem dX1_isRow_6 : decode cX1_isRow 6 = .ok (.iload_n 0, 1) := by decide +kernel
theorem dX1_isRow_7 : decode cX1_isRow 7 = .ok (.sipush 3210, 3) := by decide +kernel
theorem dX1_isRow_10 : decode cX1_isRow 10 = .ok (.if_icmp .le 5, 3) := by decide +kernel
theorem dX1_isRow_13 : decode cX1_isRow 13 = .ok (.iconst 0, 1) := by decide +kernel
theorem dX1_isRow_14 : decode cX1_isRow 14 = .ok (.ireturn, 1) := by decide +kernel
theorem dX1_isRow_15 : decode cX1_isRow 15 = .ok (.iconst 0, 1) := by decide +kernel
theorem dX1_isRow_16 : decode cX1_isRow 16 = .ok (.istore_n 1, 1) := by decide +kernel
theorem dX1_isRow_17 : decode cX1_isRow 17 = .ok (.iload_n 0, 1) := by decide +kernel
theorem dX1_isRow_18 : decode cX1_isRow 18 = .ok (.istore_n 2, 1) := by decide +kernel
theorem dX1_isRow_19 : decode cX1_isRow 19 = .ok (.iconst 0, 1) := by decide +kernel
theorem dX1_isRow_20 : decode cX1_isRow 20 = .ok (.istore_n 3, 1) := by decide +kernel
theorem dX1_isRow_21 : decode cX1_isRow 21 = .ok (.iload_n 3, 1) := by decide +kernel
theorem dX1_isRow_22 : decode cX1_isRow 22 = .ok (.iconst 4, 1) := by decide +kernel
theorem dX1_isRow_23 : decode cX1_isRow 23 = .ok (.if_icmp .ge 23, 3) := by decide +kernel
theorem dX1_isRow_26 : decode cX1_isRow 26 = .ok (.iload_n 1, 1) := by decide +kernel
theorem dX1_isRow_27 : decode cX1_isRow 27 = .ok (.iconst 1, 1) := by decide +kernel
theorem dX1_isRow_28 : decode cX1_isRow 28 = .ok (.iload_n 2, 1) := by decide +kernel
theorem dX1_isRow_29 : decode cX1_isRow 29 = .ok (.bipush 10, 2) := by decide +kernel
theorem dX1_isRow_31 : decode cX1_isRow 31 = .ok (.irem, 1) := by decide +kernel
theorem dX1_isRow_32 : decode cX1_isRow 32 = .ok (.ishl, 1) := by decide +kernel
theorem dX1_isRow_33 : decode cX1_isRow 33 = .ok (.ior, 1) := by decide +kernel
theorem dX1_isRow_34 : decode cX1_isRow 34 = .ok (.istore_n 1, 1) := by decide +kernel
theorem dX1_isRow_35 : decode cX1_isRow 35 = .ok (.iload_n 2, 1) := by decide +kernel
theorem dX1_isRow_36 : decode cX1_isRow 36 = .ok (.bipush 10, 2) := by decide +kernel
theorem dX1_isRow_38 : decode cX1_isRow 38 = .ok (.idiv, 1) := by decide +kernel
theorem dX1_isRow_39 : decode cX1_isRow 39 = .ok (.istore_n 2, 1) := by decide +kernel
theorem dX1_isRow_40 : decode cX1_isRow 40 = .ok (.iinc 3 1, 3) := by decide +kernel
theorem dX1_isRow_43 : decode cX1_isRow 43 = .ok (.goto (-22), 3) := by decide +kernel
theorem dX1_isRow_46 : decode cX1_isRow 46 = .ok (.iload_n 1, 1) := by decide +kernel
theorem dX1_isRow_47 : decode cX1_isRow 47 = .ok (.bipush 15, 2) := by decide +kernel
theorem dX1_isRow_49 : decode cX1_isRow 49 = .ok (.if_icmp .ne 7, 3) := by decide +kernel
theorem dX1_isRow_52 : decode cX1_isRow 52 = .ok (.iconst 1, 1) := by decide +kernel
theorem dX1_isRow_53 : decode cX1_isRow 53 = .ok (.goto 4, 3) := by decide +kernel
theorem dX1_isRow_56 : decode cX1_isRow 56 = .ok (.iconst 0, 1) := by decide +kernel
theorem dX1_isRow_57 : decode cX1_isRow 57 = .ok (.ireturn, 1) := by decide +kernel
theorem dX1_rowOf_0 : decode cX1_rowOf 0 = .ok (.iload_n 1, 1) := by decide +kernel
theorem dX1_rowOf_1 : decode cX1_rowOf 1 = .ok (.iload_n 2, 1) := by decide +kernel
theorem dX1_rowOf_2 : decode cX1_rowOf 2 = .ok (.invokestatic 24, 3) := by decide +kernel
theorem dX1_rowOf_5 : decode cX1_rowOf 5 = .ok (.ifCond .eq 16, 3) := by decide +kernel
theorem dX1_rowOf_8 : decode cX1_rowOf 8 = .ok (.aload_n 0, 1) := by decide +kernel
theorem dX1_rowOf_9 : decode cX1_rowOf 9 = .ok (.getfield 9, 3) := by decide +kernel
theorem dX1_rowOf_12 : decode cX1_rowOf 12 = .ok (.iconst 4, 1) := by decide +kernel
theorem dX1_rowOf_13 : decode cX1_rowOf 13 = .ok (.iload_n 1, 1) := by decide +kernel
theorem dX1_rowOf_14 : decode cX1_rowOf 14 = .ok (.imul, 1) := by decide +kernel
theorem dX1_rowOf_15 : decode cX1_rowOf 15 = .ok (.iload_n 2, 1) := by decide +kernel
theorem dX1_rowOf_16 : decode cX1_rowOf 16 = .ok (.iadd, 1) := by decide +kernel
theorem dX1_rowOf_17 : decode cX1_rowOf 17 = .ok (.iaload, 1) := by decide +kernel
theorem dX1_rowOf_18 : decode cX1_rowOf 18 = .ok (.goto 5, 3) := by decide +kernel
theorem dX1_rowOf_21 : decode cX1_rowOf 21 = .ok (.bipush 123, 2) := by decide +kernel
theorem dX1_rowOf_23 : decode cX1_rowOf 23 = .ok (.ireturn, 1) := by decide +kernel
theorem dX1_setRow_0 : decode cX1_setRow 0 = .ok (.iload_n 1, 1) := by decide +kernel
theorem dX1_setRow_1 : decode cX1_setRow 1 = .ok (.iload_n 2, 1) := by decide +kernel
theorem dX1_setRow_2 : decode cX1_setRow 2 = .ok (.invokestatic 24, 3) := by decide +kernel
theorem dX1_setRow_5 : decode cX1_setRow 5 = .ok (.ifCond .eq 10, 3) := by decide +kernel
theorem dX1_setRow_8 : decode cX1_setRow 8 = .ok (.iload_n 3, 1) := by decide +kernel
theorem dX1_setRow_9 : decode cX1_setRow 9 = .ok (.invokestatic 28, 3) := by decide +kernel
theorem dX1_setRow_12 : decode cX1_setRow 12 = .ok (.ifCond .ne 4, 3) := by decide +kernel
theorem dX1_setRow_15 : decode cX1_setRow 15 = .ok (.return_, 1) := by decide +kernel
theorem dX1_setRow_16 : decode cX1_setRow 16 = .ok (.aload_n 0, 1) := by decide +kernel
theorem dX1_setRow_17 : decode cX1_setRow 17 = .ok (.getfield 9, 3) := by decide +kernel
theorem dX1_setRow_20 : decode cX1_setRow 20 = .ok (.iconst 4, 1) := by decide +kernel
theorem dX1_setRow_21 : decode cX1_setRow 21 = .ok (.iload_n 1, 1) := by decide +kernel
theorem dX1_setRow_22 : decode cX1_setRow 22 = .ok (.imul, 1) := by decide +kernel
theorem dX1_setRow_23 : decode cX1_setRow 23 = .ok (.iload_n 2, 1) := by decide +kernel
theorem dX1_setRow_24 : decode cX1_setRow 24 = .ok (.iadd, 1) := by decide +kernel
theorem dX1_setRow_25 : decode cX1_setRow 25 = .ok (.iload_n 3, 1) := by decide +kernel
theorem dX1_setRow_26 : decode cX1_setRow 26 = .ok (.iastore, 1) := by decide +kernel
theorem dX1_setRow_27 : decode cX1_setRow 27 = .ok (.iload_n 3, 1) := by decide +kernel
theorem dX1_setRow_28 : decode cX1_setRow 28 = .ok (.istore 4, 2) := by decide +kernel
theorem dX1_setRow_30 : decode cX1_setRow 30 = .ok (.iconst 3, 1) := by decide +kernel
theorem dX1_setRow_31 : decode cX1_setRow 31 = .ok (.istore 5, 2) := by decide +kernel
theorem dX1_setRow_33 : decode cX1_setRow 33 = .ok (.iload 5, 2) := by decide +kernel
theorem dX1_setRow_35 : decode cX1_setRow 35 = .ok (.ifCond .lt 29, 3) := by decide +kernel
theorem dX1_setRow_38 : decode cX1_setRow 38 = .ok (.aload_n 0, 1) := by decide +kernel
theorem dX1_setRow_39 : decode cX1_setRow 39 = .ok (.iload_n 1, 1) := by decide +kernel
theorem dX1_setRow_40 : decode cX1_setRow 40 = .ok (.iload_n 2, 1) := by decide +kernel
theorem dX1_setRow_41 : decode cX1_setRow 41 = .ok (.iload 4, 2) := by decide +kernel
theorem dX1_setRow_43 : decode cX1_setRow 43 = .ok (.bipush 10, 2) := by decide +kernel
theorem dX1_setRow_45 : decode cX1_setRow 45 = .ok (.irem, 1) := by decide +kernel
theorem dX1_setRow_46 : decode cX1_setRow 46 = .ok (.iload 5, 2) := by decide +kernel
theorem dX1_setRow_48 : decode cX1_setRow 48 = .ok (.invokevirtual 32, 3) := by decide +kernel
theorem dX1_setRow_51 : decode cX1_setRow 51 = .ok (.iload 4, 2) := by decide +kernel
theorem dX1_setRow_53 : decode cX1_setRow 53 = .ok (.bipush 10, 2) := by decide +kernel
theorem dX1_setRow_55 : decode cX1_setRow 55 = .ok (.idiv, 1) := by decide +kernel
theorem dX1_setRow_56 : decode cX1_setRow 56 = .ok (.istore 4, 2) := by decide +kernel
theorem dX1_setRow_58 : decode cX1_setRow 58 = .ok (.iinc 5 (-1), 3) := by decide +kernel
theorem dX1_setRow_61 : decode cX1_setRow 61 = .ok (.goto (-28), 3) := by decide +kernel
theorem dX1_setRow_64 : decode cX1_setRow 64 = .ok (.return_, 1) := by decide +kernel
theorem dX1_setRank_0 : decode cX1_setRank 0 = .ok (.iload_n 1, 1) := by decide +kernel
theorem dX1_setRank_1 : decode cX1_setRank 1 = .ok (.iload_n 2, 1) := by decide +kernel
theorem dX1_setRank_2 : decode cX1_setRank 2 = .ok (.invokestatic 24, 3) := by decide +kernel
theorem dX1_setRank_5 : decode cX1_setRank 5 = .ok (.ifCond .eq 28, 3) := by decide +kernel
theorem dX1_setRank_8 : decode cX1_setRank 8 = .ok (.iload_n 1, 1) := by decide +kernel
theorem dX1_setRank_9 : decode cX1_setRank 9 = .ok (.iload_n 3, 1) := by decide +kernel
theorem dX1_setRank_10 : decode cX1_setRank 10 = .ok (.invokestatic 24, 3) := by decide +kernel
theorem dX1_setRank_13 : decode cX1_setRank 13 = .ok (.ifCond .eq 20, 3) := by decide +kernel
theorem dX1_setRank_16 : decode cX1_setRank 16 = .ok (.aload_n 0, 1) := by decide +kernel
theorem dX1_setRank_17 : decode cX1_setRank 17 = .ok (.getfield 15, 3) := by decide +kernel
theorem dX1_setRank_20 : decode cX1_setRank 20 = .ok (.bipush 16, 2) := by decide +kernel
theorem dX1_setRank_22 : decode cX1_setRank 22 = .ok (.iload_n 1, 1) := by decide +kernel
theorem dX1_setRank_23 : decode cX1_setRank 23 = .ok (.imul, 1) := by decide +kernel
theorem dX1_setRank_24 : decode cX1_setRank 24 = .ok (.iconst 4, 1) := by decide +kernel
theorem dX1_setRank_25 : decode cX1_setRank 25 = .ok (.iload_n 2, 1) := by decide +kernel
theorem dX1_setRank_26 : decode cX1_setRank 26 = .ok (.imul, 1) := by decide +kernel
theorem dX1_setRank_27 : decode cX1_setRank 27 = .ok (.iadd, 1) := by decide +kernel
theorem dX1_setRank_28 : decode cX1_setRank 28 = .ok (.iload_n 3, 1) := by decide +kernel
theorem dX1_setRank_29 : decode cX1_setRank 29 = .ok (.iadd, 1) := by decide +kernel
theorem dX1_setRank_30 : decode cX1_setRank 30 = .ok (.iload 4, 2) := by decide +kernel
theorem dX1_setRank_32 : decode cX1_setRank 32 = .ok (.iastore, 1) := by decide +kernel
theorem dX1_setRank_33 : decode cX1_setRank 33 = .ok (.return_, 1) := by decide +kernel
theorem dX1_rankOf_0 : decode cX1_rankOf 0 = .ok (.iload_n 1, 1) := by decide +kernel
theorem dX1_rankOf_1 : decode cX1_rankOf 1 = .ok (.iload_n 2, 1) := by decide +kernel
theorem dX1_rankOf_2 : decode cX1_rankOf 2 = .ok (.invokestatic 24, 3) := by decide +kernel
theorem dX1_rankOf_5 : decode cX1_rankOf 5 = .ok (.ifCond .eq 29, 3) := by decide +kernel
theorem dX1_rankOf_8 : decode cX1_rankOf 8 = .ok (.iload_n 1, 1) := by decide +kernel
theorem dX1_rankOf_9 : decode cX1_rankOf 9 = .ok (.iload_n 3, 1) := by decide +kernel
theorem dX1_rankOf_10 : decode cX1_rankOf 10 = .ok (.invokestatic 24, 3) := by decide +kernel
theorem dX1_rankOf_13 : decode cX1_rankOf 13 = .ok (.ifCond .eq 21, 3) := by decide +kernel
theorem dX1_rankOf_16 : decode cX1_rankOf 16 = .ok (.aload_n 0, 1) := by decide +kernel
theorem dX1_rankOf_17 : decode cX1_rankOf 17 = .ok (.getfield 15, 3) := by decide +kernel
theorem dX1_rankOf_20 : decode cX1_rankOf 20 = .ok (.bipush 16, 2) := by decide +kernel
theorem dX1_rankOf_22 : decode cX1_rankOf 22 = .ok (.iload_n 1, 1) := by decide +kernel
theorem dX1_rankOf_23 : decode cX1_rankOf 23 = .ok (.imul, 1) := by decide +kernel
theorem dX1_rankOf_24 : decode cX1_rankOf 24 = .ok (.iconst 4, 1) := by decide +kernel
theorem dX1_rankOf_25 : decode cX1_rankOf 25 = .ok (.iload_n 2, 1) := by decide +kernel
theorem dX1_rankOf_26 : decode cX1_rankOf 26 = .ok (.imul, 1) := by decide +kernel
theorem dX1_rankOf_27 : decode cX1_rankOf 27 = .ok (.iadd, 1) := by decide +kernel
theorem dX1_rankOf_28 : decode cX1_rankOf 28 = .ok (.iload_n 3, 1) := by decide +kernel
theorem dX1_rankOf_29 : decode cX1_rankOf 29 = .ok (.iadd, 1) := by decide +kernel
theorem dX1_rankOf_30 : decode cX1_rankOf 30 = .ok (.iaload, 1) := by decide +kernel
theorem dX1_rankOf_31 : decode cX1_rankOf 31 = .ok (.goto 4, 3) := by decide +kernel
theorem dX1_rankOf_34 : decode cX1_rankOf 34 = .ok (.iconst 4, 1) := by decide +kernel
theorem dX1_rankOf_35 : decode cX1_rankOf 35 = .ok (.ireturn, 1) := by decide +kernel
theorem dX1_partnerIn_0 : decode cX1_partnerIn 0 = .ok (.iload_n 1, 1) := by decide +kernel
theorem dX1_partnerIn_1 : decode cX1_partnerIn 1 = .ok (.ifCond .ne 9, 3) := by decide +kernel
theorem dX1_partnerIn_4 : decode cX1_partnerIn 4 = .ok (.iload_n 0, 1) := by decide +kernel
theorem dX1_partnerIn_5 : decode cX1_partnerIn 5 = .ok (.iload_n 2, 1) := by decide +kernel
theorem dX1_partnerIn_6 : decode cX1_partnerIn 6 = .ok (.invokestatic 36, 3) := by decide +kernel
theorem dX1_partnerIn_9 : decode cX1_partnerIn 9 = .ok (.ireturn, 1) := by decide +kernel
theorem dX1_partnerIn_10 : decode cX1_partnerIn 10 = .ok (.iconst 0, 1) := by decide +kernel
theorem dX1_partnerIn_11 : decode cX1_partnerIn 11 = .ok (.istore_n 3, 1) := by decide +kernel
theorem dX1_partnerIn_12 : decode cX1_partnerIn 12 = .ok (.iload_n 3, 1) := by decide +kernel
theorem dX1_partnerIn_13 : decode cX1_partnerIn 13 = .ok (.iconst 4, 1) := by decide +kernel
theorem dX1_partnerIn_14 : decode cX1_partnerIn 14 = .ok (.if_icmp .ge 20, 3) := by decide +kernel
theorem dX1_partnerIn_17 : decode cX1_partnerIn 17 = .ok (.iload_n 0, 1) := by decide +kernel
theorem dX1_partnerIn_18 : decode cX1_partnerIn 18 = .ok (.iload_n 3, 1) := by decide +kernel
theorem dX1_partnerIn_19 : decode cX1_partnerIn 19 = .ok (.invokestatic 36, 3) := by decide +kernel
theorem dX1_partnerIn_22 : decode cX1_partnerIn 22 = .ok (.iload_n 2, 1) := by decide +kernel
theorem dX1_partnerIn_23 : decode cX1_partnerIn 23 = .ok (.if_icmp .ne 5, 3) := by decide +kernel
theorem dX1_partnerIn_26 : decode cX1_partnerIn 26 = .ok (.iload_n 3, 1) := by decide +kernel
theorem dX1_partnerIn_27 : decode cX1_partnerIn 27 = .ok (.ireturn, 1) := by decide +kernel
theorem dX1_partnerIn_28 : decode cX1_partnerIn 28 = .ok (.iinc 3 1, 3) := by decide +kernel
theorem dX1_partnerIn_31 : decode cX1_partnerIn 31 = .ok (.goto (-19), 3) := by decide +kernel
theorem dX1_partnerIn_34 : decode cX1_partnerIn 34 = .ok (.bipush (-6), 2) := by decide +kernel
theorem dX1_partnerIn_36 : decode cX1_partnerIn 36 = .ok (.ireturn, 1) := by decide +kernel
theorem dX1_chosenBy_0 : decode cX1_chosenBy 0 = .ok (.iload_n 0, 1) := by decide +kernel
theorem dX1_chosenBy_1 : decode cX1_chosenBy 1 = .ok (.iconst 2, 1) := by decide +kernel
theorem dX1_chosenBy_2 : decode cX1_chosenBy 2 = .ok (.iload_n 1, 1) := by decide +kernel
theorem dX1_chosenBy_3 : decode cX1_chosenBy 3 = .ok (.imul, 1) := by decide +kernel
theorem dX1_chosenBy_4 : decode cX1_chosenBy 4 = .ok (.ishr, 1) := by decide +kernel
theorem dX1_chosenBy_5 : decode cX1_chosenBy 5 = .ok (.iconst 3, 1) := by decide +kernel
theorem dX1_chosenBy_6 : decode cX1_chosenBy 6 = .ok (.iand, 1) := by decide +kernel
theorem dX1_chosenBy_7 : decode cX1_chosenBy 7 = .ok (.ireturn, 1) := by decide +kernel
theorem dX1_countSteady_0 : decode cX1_countSteady 0 = .ok (.iconst 0, 1) := by decide +kernel
theorem dX1_countSteady_1 : decode cX1_countSteady 1 = .ok (.istore_n 1, 1) := by decide +kernel
theorem dX1_countSteady_2 : decode cX1_countSteady 2 = .ok (.iconst 0, 1) := by decide +kernel
theorem dX1_countSteady_3 : decode cX1_countSteady 3 = .ok (.istore_n 2, 1) := by decide +kernel
theorem dX1_countSteady_4 : decode cX1_countSteady 4 = .ok (.iload_n 2, 1) := by decide +kernel
theorem dX1_countSteady_5 : decode cX1_countSteady 5 = .ok (.sipush 256, 3) := by decide +kernel
theorem dX1_countSteady_8 : decode cX1_countSteady 8 = .ok (.if_icmp .ge 20, 3) := by decide +kernel
theorem dX1_countSteady_11 : decode cX1_countSteady 11 = .ok (.aload_n 0, 1) := by decide +kernel
theorem dX1_countSteady_12 : decode cX1_countSteady 12 = .ok (.iload_n 2, 1) := by decide +kernel
theorem dX1_countSteady_13 : decode cX1_countSteady 13 = .ok (.invokevirtual 40, 3) := by decide +kernel
theorem dX1_countSteady_16 : decode cX1_countSteady 16 = .ok (.ifCond .eq 6, 3) := by decide +kernel
theorem dX1_countSteady_19 : decode cX1_countSteady 19 = .ok (.iinc 1 1, 3) := by decide +kernel
theorem dX1_countSteady_22 : decode cX1_countSteady 22 = .ok (.iinc 2 1, 3) := by decide +kernel
theorem dX1_countSteady_25 : decode cX1_countSteady 25 = .ok (.goto (-21), 3) := by decide +kernel
theorem dX1_countSteady_28 : decode cX1_countSteady 28 = .ok (.iload_n 1, 1) := by decide +kernel
theorem dX1_countSteady_29 : decode cX1_countSteady 29 = .ok (.ireturn, 1) := by decide +kernel
theorem dX1_bestSteady_0 : decode cX1_bestSteady 0 = .ok (.sipush 228, 3) := by decide +kernel
theorem dX1_bestSteady_3 : decode cX1_bestSteady 3 = .ok (.istore_n 2, 1) := by decide +kernel
theorem dX1_bestSteady_4 : decode cX1_bestSteady 4 = .ok (.bipush 16, 2) := by decide +kernel
theorem dX1_bestSteady_6 : decode cX1_bestSteady 6 = .ok (.istore_n 3, 1) := by decide +kernel
theorem dX1_bestSteady_7 : decode cX1_bestSteady 7 = .ok (.iconst 0, 1) := by decide +kernel
theorem dX1_bestSteady_8 : decode cX1_bestSteady 8 = .ok (.istore 4, 2) := by decide +kernel
theorem dX1_bestSteady_10 : decode cX1_bestSteady 10 = .ok (.iload 4, 2) := by decide +kernel
theorem dX1_bestSteady_12 : decode cX1_bestSteady 12 = .ok (.sipush 256, 3) := by decide +kernel
theorem dX1_bestSteady_15 : decode cX1_bestSteady 15 = .ok (.if_icmp .ge 40, 3) := by decide +kernel
theorem dX1_bestSteady_18 : decode cX1_bestSteady 18 = .ok (.aload_n 0, 1) := by decide +kernel
theorem dX1_bestSteady_19 : decode cX1_bestSteady 19 = .ok (.iload 4, 2) := by decide +kernel
theorem dX1_bestSteady_21 : decode cX1_bestSteady 21 = .ok (.invokevirtual 40, 3) := by decide +kernel
theorem dX1_bestSteady_24 : decode cX1_bestSteady 24 = .ok (.ifCond .eq 25, 3) := by decide +kernel
theorem dX1_bestSteady_27 : decode cX1_bestSteady 27 = .ok (.aload_n 0, 1) := by decide +kernel
theorem dX1_bestSteady_28 : decode cX1_bestSteady 28 = .ok (.iload 4, 2) := by decide +kernel
theorem dX1_bestSteady_30 : decode cX1_bestSteady 30 = .ok (.iload_n 1, 1) := by decide +kernel
theorem dX1_bestSteady_31 : decode cX1_bestSteady 31 = .ok (.invokevirtual 43, 3) := by decide +kernel
theorem dX1_bestSteady_34 : decode cX1_bestSteady 34 = .ok (.iload_n 3, 1) := by decide +kernel
theorem dX1_bestSteady_35 : decode cX1_bestSteady 35 = .ok (.if_icmp .ge 14, 3) := by decide +kernel
theorem dX1_bestSteady_38 : decode cX1_bestSteady 38 = .ok (.iload 4, 2) := by decide +kernel
theorem dX1_bestSteady_40 : decode cX1_bestSteady 40 = .ok (.istore_n 2, 1) := by decide +kernel
theorem dX1_bestSteady_41 : decode cX1_bestSteady 41 = .ok (.aload_n 0, 1) := by decide +kernel
theorem dX1_bestSteady_42 : decode cX1_bestSteady 42 = .ok (.iload 4, 2) := by decide +kernel
theorem dX1_bestSteady_44 : decode cX1_bestSteady 44 = .ok (.iload_n 1, 1) := by decide +kernel
theorem dX1_bestSteady_45 : decode cX1_bestSteady 45 = .ok (.invokevirtual 43, 3) := by decide +kernel
theorem dX1_bestSteady_48 : decode cX1_bestSteady 48 = .ok (.istore_n 3, 1) := by decide +kernel
theorem dX1_bestSteady_49 : decode cX1_bestSteady 49 = .ok (.iinc 4 1, 3) := by decide +kernel
theorem dX1_bestSteady_52 : decode cX1_bestSteady 52 = .ok (.goto (-42), 3) := by decide +kernel
theorem dX1_bestSteady_55 : decode cX1_bestSteady 55 = .ok (.iload_n 2, 1) := by decide +kernel
theorem dX1_bestSteady_56 : decode cX1_bestSteady 56 = .ok (.ireturn, 1) := by decide +kernel
theorem dX1_sumOfRanks_0 : decode cX1_sumOfRanks 0 = .ok (.iconst 0, 1) := by decide +kernel
theorem dX1_sumOfRanks_1 : decode cX1_sumOfRanks 1 = .ok (.istore_n 3, 1) := by decide +kernel
theorem dX1_sumOfRanks_2 : decode cX1_sumOfRanks 2 = .ok (.iconst 0, 1) := by decide +kernel
theorem dX1_sumOfRanks_3 : decode cX1_sumOfRanks 3 = .ok (.istore 4, 2) := by decide +kernel
theorem dX1_sumOfRanks_5 : decode cX1_sumOfRanks 5 = .ok (.iload 4, 2) := by decide +kernel
theorem dX1_sumOfRanks_7 : decode cX1_sumOfRanks 7 = .ok (.iconst 4, 1) := by decide +kernel
theorem dX1_sumOfRanks_8 : decode cX1_sumOfRanks 8 = .ok (.if_icmp .ge 26, 3) := by decide +kernel
theorem dX1_sumOfRanks_11 : decode cX1_sumOfRanks 11 = .ok (.iload_n 3, 1) := by decide +kernel
theorem dX1_sumOfRanks_12 : decode cX1_sumOfRanks 12 = .ok (.aload_n 0, 1) := by decide +kernel
theorem dX1_sumOfRanks_13 : decode cX1_sumOfRanks 13 = .ok (.iload_n 2, 1) := by decide +kernel
theorem dX1_sumOfRanks_14 : decode cX1_sumOfRanks 14 = .ok (.iload 4, 2) := by decide +kernel
theorem dX1_sumOfRanks_16 : decode cX1_sumOfRanks 16 = .ok (.iload_n 1, 1) := by decide +kernel
theorem dX1_sumOfRanks_17 : decode cX1_sumOfRanks 17 = .ok (.iload_n 2, 1) := by decide +kernel
theorem dX1_sumOfRanks_18 : decode cX1_sumOfRanks 18 = .ok (.iload 4, 2) := by decide +kernel
theorem dX1_sumOfRanks_20 : decode cX1_sumOfRanks 20 = .ok (.invokestatic 46, 3) := by decide +kernel
theorem dX1_sumOfRanks_23 : decode cX1_sumOfRanks 23 = .ok (.invokevirtual 50, 3) := by decide +kernel
theorem dX1_sumOfRanks_26 : decode cX1_sumOfRanks 26 = .ok (.iadd, 1) := by decide +kernel
theorem dX1_sumOfRanks_27 : decode cX1_sumOfRanks 27 = .ok (.istore_n 3, 1) := by decide +kernel
theorem dX1_sumOfRanks_28 : decode cX1_sumOfRanks 28 = .ok (.iinc 4 1, 3) := by decide +kernel
theorem dX1_sumOfRanks_31 : decode cX1_sumOfRanks 31 = .ok (.goto (-26), 3) := by decide +kernel
theorem dX1_sumOfRanks_34 : decode cX1_sumOfRanks 34 = .ok (.iload_n 3, 1) := by decide +kernel
theorem dX1_sumOfRanks_35 : decode cX1_sumOfRanks 35 = .ok (.ireturn, 1) := by decide +kernel
theorem dX1_isSteady_0 : decode cX1_isSteady 0 = .ok (.iload_n 1, 1) := by decide +kernel
theorem dX1_isSteady_1 : decode cX1_isSteady 1 = .ok (.invokestatic 53, 3) := by decide +kernel
theorem dX1_isSteady_4 : decode cX1_isSteady 4 = .ok (.ifCond .ne 5, 3) := by decide +kernel
theorem dX1_isSteady_7 : decode cX1_isSteady 7 = .ok (.iconst 0, 1) := by decide +kernel
theorem dX1_isSteady_8 : decode cX1_isSteady 8 = .ok (.ireturn, 1) := by decide +kernel
theorem dX1_isSteady_9 : decode cX1_isSteady 9 = .ok (.iconst 0, 1) := by decide +kernel
theorem dX1_isSteady_10 : decode cX1_isSteady 10 = .ok (.istore_n 2, 1) := by decide +kernel
theorem dX1_isSteady_11 : decode cX1_isSteady 11 = .ok (.iload_n 2, 1) := by decide +kernel
theorem dX1_isSteady_12 : decode cX1_isSteady 12 = .ok (.iconst 4, 1) := by decide +kernel
theorem dX1_isSteady_13 : decode cX1_isSteady 13 = .ok (.if_icmp .ge 46, 3) := by decide +kernel
theorem dX1_isSteady_16 : decode cX1_isSteady 16 = .ok (.iconst 0, 1) := by decide +kernel
theorem dX1_isSteady_17 : decode cX1_isSteady 17 = .ok (.istore_n 3, 1) := by decide +kernel
theorem dX1_isSteady_18 : decode cX1_isSteady 18 = .ok (.iload_n 3, 1) := by decide +kernel
theorem dX1_isSteady_19 : decode cX1_isSteady 19 = .ok (.iconst 4, 1) := by decide +kernel
theorem dX1_isSteady_20 : decode cX1_isSteady 20 = .ok (.if_icmp .ge 33, 3) := by decide +kernel
theorem dX1_isSteady_23 : decode cX1_isSteady 23 = .ok (.aload_n 0, 1) := by decide +kernel
theorem dX1_isSteady_24 : decode cX1_isSteady 24 = .ok (.iload_n 1, 1) := by decide +kernel
theorem dX1_isSteady_25 : decode cX1_isSteady 25 = .ok (.iconst 0, 1) := by decide +kernel
theorem dX1_isSteady_26 : decode cX1_isSteady 26 = .ok (.iload_n 2, 1) := by decide +kernel
theorem dX1_isSteady_27 : decode cX1_isSteady 27 = .ok (.iload_n 3, 1) := by decide +kernel
theorem dX1_isSteady_28 : decode cX1_isSteady 28 = .ok (.invokevirtual 56, 3) := by decide +kernel
theorem dX1_isSteady_31 : decode cX1_isSteady 31 = .ok (.ifCond .eq 16, 3) := by decide +kernel
theorem dX1_isSteady_34 : decode cX1_isSteady 34 = .ok (.aload_n 0, 1) := by decide +kernel
theorem dX1_isSteady_35 : decode cX1_isSteady 35 = .ok (.iload_n 1, 1) := by decide +kernel
theorem dX1_isSteady_36 : decode cX1_isSteady 36 = .ok (.iconst 1, 1) := by decide +kernel
theorem dX1_isSteady_37 : decode cX1_isSteady 37 = .ok (.iload_n 3, 1) := by decide +kernel
theorem dX1_isSteady_38 : decode cX1_isSteady 38 = .ok (.iload_n 2, 1) := by decide +kernel
theorem dX1_isSteady_39 : decode cX1_isSteady 39 = .ok (.invokevirtual 56, 3) := by decide +kernel
theorem dX1_isSteady_42 : decode cX1_isSteady 42 = .ok (.ifCond .eq 5, 3) := by decide +kernel
theorem dX1_isSteady_45 : decode cX1_isSteady 45 = .ok (.iconst 0, 1) := by decide +kernel
theorem dX1_isSteady_46 : decode cX1_isSteady 46 = .ok (.ireturn, 1) := by decide +kernel
theorem dX1_isSteady_47 : decode cX1_isSteady 47 = .ok (.iinc 3 1, 3) := by decide +kernel
theorem dX1_isSteady_50 : decode cX1_isSteady 50 = .ok (.goto (-32), 3) := by decide +kernel
theorem dX1_isSteady_53 : decode cX1_isSteady 53 = .ok (.iinc 2 1, 3) := by decide +kernel
theorem dX1_isSteady_56 : decode cX1_isSteady 56 = .ok (.goto (-45), 3) := by decide +kernel
theorem dX1_isSteady_59 : decode cX1_isSteady 59 = .ok (.iconst 1, 1) := by decide +kernel
theorem dX1_isSteady_60 : decode cX1_isSteady 60 = .ok (.ireturn, 1) := by decide +kernel
theorem dX1_hasEachOnce_0 : decode cX1_hasEachOnce 0 = .ok (.iconst 0, 1) := by decide +kernel
theorem dX1_hasEachOnce_1 : decode cX1_hasEachOnce 1 = .ok (.istore_n 1, 1) := by decide +kernel
theorem dX1_hasEachOnce_2 : decode cX1_hasEachOnce 2 = .ok (.iconst 0, 1) := by decide +kernel
theorem dX1_hasEachOnce_3 : decode cX1_hasEachOnce 3 = .ok (.istore_n 2, 1) := by decide +kernel
theorem dX1_hasEachOnce_4 : decode cX1_hasEachOnce 4 = .ok (.iload_n 2, 1) := by decide +kernel
theorem dX1_hasEachOnce_5 : decode cX1_hasEachOnce 5 = .ok (.iconst 4, 1) := by decide +kernel
theorem dX1_hasEachOnce_6 : decode cX1_hasEachOnce 6 = .ok (.if_icmp .ge 19, 3) := by decide +kernel
theorem dX1_hasEachOnce_9 : decode cX1_hasEachOnce 9 = .ok (.iload_n 1, 1) := by decide +kernel
theorem dX1_hasEachOnce_10 : decode cX1_hasEachOnce 10 = .ok (.iconst 1, 1) := by decide +kernel
theorem dX1_hasEachOnce_11 : decode cX1_hasEachOnce 11 = .ok (.iload_n 0, 1) := by decide +kernel
theorem dX1_hasEachOnce_12 : decode cX1_hasEachOnce 12 = .ok (.iload_n 2, 1) := by decide +kernel
theorem dX1_hasEachOnce_13 : decode cX1_hasEachOnce 13 = .ok (.invokestatic 36, 3) := by decide +kernel
theorem dX1_hasEachOnce_16 : decode cX1_hasEachOnce 16 = .ok (.ishl, 1) := by decide +kernel
theorem dX1_hasEachOnce_17 : decode cX1_hasEachOnce 17 = .ok (.ior, 1) := by decide +kernel
theorem dX1_hasEachOnce_18 : decode cX1_hasEachOnce 18 = .ok (.istore_n 1, 1) := by decide +kernel
theorem dX1_hasEachOnce_19 : decode cX1_hasEachOnce 19 = .ok (.iinc 2 1, 3) := by decide +kernel
theorem dX1_hasEachOnce_22 : decode cX1_hasEachOnce 22 = .ok (.goto (-18), 3) := by decide +kernel
theorem dX1_hasEachOnce_25 : decode cX1_hasEachOnce 25 = .ok (.iload_n 1, 1) := by decide +kernel
theorem dX1_hasEachOnce_26 : decode cX1_hasEachOnce 26 = .ok (.bipush 15, 2) := by decide +kernel
theorem dX1_hasEachOnce_28 : decode cX1_hasEachOnce 28 = .ok (.if_icmp .ne 7, 3) := by decide +kernel
theorem dX1_hasEachOnce_31 : decode cX1_hasEachOnce 31 = .ok (.iconst 1, 1) := by decide +kernel
theorem dX1_hasEachOnce_32 : decode cX1_hasEachOnce 32 = .ok (.goto 4, 3) := by decide +kernel
theorem dX1_hasEachOnce_35 : decode cX1_hasEachOnce 35 = .ok (.iconst 0, 1) := by decide +kernel
theorem dX1_hasEachOnce_36 : decode cX1_hasEachOnce 36 = .ok (.ireturn, 1) := by decide +kernel
theorem dX1_prefers_0 : decode cX1_prefers 0 = .ok (.aload_n 0, 1) := by decide +kernel
theorem dX1_prefers_1 : decode cX1_prefers 1 = .ok (.iload_n 2, 1) := by decide +kernel
theorem dX1_prefers_2 : decode cX1_prefers 2 = .ok (.iload_n 3, 1) := by decide +kernel
theorem dX1_prefers_3 : decode cX1_prefers 3 = .ok (.iload 4, 2) := by decide +kernel
theorem dX1_prefers_5 : decode cX1_prefers 5 = .ok (.invokevirtual 50, 3) := by decide +kernel
theorem dX1_prefers_8 : decode cX1_prefers 8 = .ok (.aload_n 0, 1) := by decide +kernel
theorem dX1_prefers_9 : decode cX1_prefers 9 = .ok (.iload_n 2, 1) := by decide +kernel
theorem dX1_prefers_10 : decode cX1_prefers 10 = .ok (.iload_n 3, 1) := by decide +kernel
theorem dX1_prefers_11 : decode cX1_prefers 11 = .ok (.iload_n 1, 1) := by decide +kernel
theorem dX1_prefers_12 : decode cX1_prefers 12 = .ok (.iload_n 2, 1) := by decide +kernel
theorem dX1_prefers_13 : decode cX1_prefers 13 = .ok (.iload_n 3, 1) := by decide +kernel
theorem dX1_prefers_14 : decode cX1_prefers 14 = .ok (.invokestatic 46, 3) := by decide +kernel
theorem dX1_prefers_17 : decode cX1_prefers 17 = .ok (.invokevirtual 50, 3) := by decide +kernel
theorem dX1_prefers_20 : decode cX1_prefers 20 = .ok (.if_icmp .ge 7, 3) := by decide +kernel
theorem dX1_prefers_23 : decode cX1_prefers 23 = .ok (.iconst 1, 1) := by decide +kernel
theorem dX1_prefers_24 : decode cX1_prefers 24 = .ok (.goto 4, 3) := by decide +kernel
theorem dX1_prefers_27 : decode cX1_prefers 27 = .ok (.iconst 0, 1) := by decide +kernel
theorem dX1_prefers_28 : decode cX1_prefers 28 = .ok (.ireturn, 1) := by decide +kernel
theorem dX2_init_0 : decode cX2_init 0 = .ok (.aload_n 0, 1) := by decide +kernel
theorem dX2_init_1 : decode cX2_init 1 = .ok (.invokespecial 3, 3) := by decide +kernel
theorem dX2_init_4 : decode cX2_init 4 = .ok (.aload_n 0, 1) := by decide +kernel
theorem dX2_init_5 : decode cX2_init 5 = .ok (.bipush 49, 2) := by decide +kernel
theorem dX2_init_7 : decode cX2_init 7 = .ok (.newarray .int, 2) := by decide +kernel
theorem dX2_init_9 : decode cX2_init 9 = .ok (.putfield 9, 3) := by decide +kernel
theorem dX2_init_12 : decode cX2_init 12 = .ok (.aload_n 0, 1) := by decide +kernel
theorem dX2_init_13 : decode cX2_init 13 = .ok (.bipush 49, 2) := by decide +kernel
theorem dX2_init_15 : decode cX2_init 15 = .ok (.newarray .int, 2) := by decide +kernel
theorem dX2_init_17 : decode cX2_init 17 = .ok (.putfield 15, 3) := by decide +kernel
theorem dX2_init_20 : decode cX2_init 20 = .ok (.aload_n 0, 1) := by decide +kernel
theorem dX2_init_21 : decode cX2_init 21 = .ok (.bipush 7, 2) := by decide +kernel
theorem dX2_init_23 : decode cX2_init 23 = .ok (.newarray .int, 2) := by decide +kernel
theorem dX2_init_25 : decode cX2_init 25 = .ok (.putfield 18, 3) := by decide +kernel
theorem dX2_init_28 : decode cX2_init 28 = .ok (.aload_n 0, 1) := by decide +kernel
theorem dX2_init_29 : decode cX2_init 29 = .ok (.bipush 7, 2) := by decide +kernel
theorem dX2_init_31 : decode cX2_init 31 = .ok (.newarray .int, 2) := by decide +kernel
theorem dX2_init_33 : decode cX2_init 33 = .ok (.putfield 21, 3) := by decide +kernel
theorem dX2_init_36 : decode cX2_init 36 = .ok (.aload_n 0, 1) := by decide +kernel
theorem dX2_init_37 : decode cX2_init 37 = .ok (.iconst 0, 1) := by decide +kernel
theorem dX2_init_38 : decode cX2_init 38 = .ok (.putfield 24, 3) := by decide +kernel
theorem dX2_init_41 : decode cX2_init 41 = .ok (.aload_n 0, 1) := by decide +kernel
theorem dX2_init_42 : decode cX2_init 42 = .ok (.getfield 9, 3) := by decide +kernel
theorem dX2_init_45 : decode cX2_init 45 = .ok (.bipush (-6), 2) := by decide +kernel
theorem dX2_init_47 : decode cX2_init 47 = .ok (.invokestatic 28, 3) := by decide +kernel
theorem dX2_init_50 : decode cX2_init 50 = .ok (.aload_n 0, 1) := by decide +kernel
theorem dX2_init_51 : decode cX2_init 51 = .ok (.getfield 21, 3) := by decide +kernel
theorem dX2_init_54 : decode cX2_init 54 = .ok (.iconst 5, 1) := by decide +kernel
theorem dX2_init_55 : decode cX2_init 55 = .ok (.invokestatic 28, 3) := by decide +kernel
theorem dX2_init_58 : decode cX2_init 58 = .ok (.iconst 0, 1) := by decide +kernel
theorem dX2_init_59 : decode cX2_init 59 = .ok (.istore_n 1, 1) := by decide +kernel
theorem dX2_init_60 : decode cX2_init 60 = .ok (.iload_n 1, 1) := by decide +kernel
theorem dX2_init_61 : decode cX2_init 61 = .ok (.bipush 7, 2) := by decide +kernel
theorem dX2_init_63 : decode cX2_init 63 = .ok (.if_icmp .ge 16, 3) := by decide +kernel
theorem dX2_init_66 : decode cX2_init 66 = .ok (.aload_n 0, 1) := by decide +kernel
theorem dX2_init_67 : decode cX2_init 67 = .ok (.getfield 18, 3) := by decide +kernel
theorem dX2_init_70 : decode cX2_init 70 = .ok (.iload_n 1, 1) := by decide +kernel
theorem dX2_init_71 : decode cX2_init 71 = .ok (.iload_n 1, 1) := by decide +kernel
theorem dX2_init_72 : decode cX2_init 72 = .ok (.iastore, 1) := by decide +kernel
theorem dX2_init_73 : decode cX2_init 73 = .ok (.iinc 1 1, 3) := by decide +kernel
theorem dX2_init_76 : decode cX2_init 76 = .ok (.goto (-16), 3) := by decide +kernel
theorem dX2_init_79 : decode cX2_init 79 = .ok (.return_, 1) := by decide +kernel
theorem dX2_copyFrom_0 : decode cX2_copyFrom 0 = .ok (.aload_n 1, 1) := by decide +kernel
theorem dX2_copyFrom_1 : decode cX2_copyFrom 1 = .ok (.getfield 9, 3) := by decide +kernel
theorem dX2_copyFrom_4 : decode cX2_copyFrom 4 = .ok (.iconst 0, 1) := by decide +kernel
theorem dX2_copyFrom_5 : decode cX2_copyFrom 5 = .ok (.aload_n 0, 1) := by decide +kernel
theorem dX2_copyFrom_6 : decode cX2_copyFrom 6 = .ok (.getfield 9, 3) := by decide +kernel
theorem dX2_copyFrom_9 : decode cX2_copyFrom 9 = .ok (.iconst 0, 1) := by decide +kernel
theorem dX2_copyFrom_10 : decode cX2_copyFrom 10 = .ok (.bipush 49, 2) := by decide +kernel
theorem dX2_copyFrom_12 : decode cX2_copyFrom 12 = .ok (.invokestatic 34, 3) := by decide +kernel
theorem dX2_copyFrom_15 : decode cX2_copyFrom 15 = .ok (.aload_n 1, 1) := by decide +kernel
theorem dX2_copyFrom_16 : decode cX2_copyFrom 16 = .ok (.getfield 15, 3) := by decide +kernel
theorem dX2_copyFrom_19 : decode cX2_copyFrom 19 = .ok (.iconst 0, 1) := by decide +kernel
theorem dX2_copyFrom_20 : decode cX2_copyFrom 20 = .ok (.aload_n 0, 1) := by decide +kernel
theorem dX2_copyFrom_21 : decode cX2_copyFrom 21 = .ok (.getfield 15, 3) := by decide +kernel
theorem dX2_copyFrom_24 : decode cX2_copyFrom 24 = .ok (.iconst 0, 1) := by decide +kernel
theorem dX2_copyFrom_25 : decode cX2_copyFrom 25 = .ok (.bipush 49, 2) := by decide +kernel
theorem dX2_copyFrom_27 : decode cX2_copyFrom 27 = .ok (.invokestatic 34, 3) := by decide +kernel
theorem dX2_copyFrom_30 : decode cX2_copyFrom 30 = .ok (.aload_n 1, 1) := by decide +kernel
theorem dX2_copyFrom_31 : decode cX2_copyFrom 31 = .ok (.getfield 18, 3) := by decide +kernel
theorem dX2_copyFrom_34 : decode cX2_copyFrom 34 = .ok (.iconst 0, 1) := by decide +kernel
theorem dX2_copyFrom_35 : decode cX2_copyFrom 35 = .ok (.aload_n 0, 1) := by decide +kernel
theorem dX2_copyFrom_36 : decode cX2_copyFrom 36 = .ok (.getfield 18, 3) := by decide +kernel
theorem dX2_copyFrom_39 : decode cX2_copyFrom 39 = .ok (.iconst 0, 1) := by decide +kernel
theorem dX2_copyFrom_40 : decode cX2_copyFrom 40 = .ok (.bipush 7, 2) := by decide +kernel
theorem dX2_copyFrom_42 : decode cX2_copyFrom 42 = .ok (.invokestatic 34, 3) := by decide +kernel
theorem dX2_copyFrom_45 : decode cX2_copyFrom 45 = .ok (.aload_n 1, 1) := by decide +kernel
theorem dX2_copyFrom_46 : decode cX2_copyFrom 46 = .ok (.getfield 21, 3) := by decide +kernel
theorem dX2_copyFrom_49 : decode cX2_copyFrom 49 = .ok (.iconst 0, 1) := by decide +kernel
theorem dX2_copyFrom_50 : decode cX2_copyFrom 50 = .ok (.aload_n 0, 1) := by decide +kernel
theorem dX2_copyFrom_51 : decode cX2_copyFrom 51 = .ok (.getfield 21, 3) := by decide +kernel
theorem dX2_copyFrom_54 : decode cX2_copyFrom 54 = .ok (.iconst 0, 1) := by decide +kernel
theorem dX2_copyFrom_55 : decode cX2_copyFrom 55 = .ok (.bipush 7, 2) := by decide +kernel
theorem dX2_copyFrom_57 : decode cX2_copyFrom 57 = .ok (.invokestatic 34, 3) := by decide +kernel
theorem dX2_copyFrom_60 : decode cX2_copyFrom 60 = .ok (.aload_n 0, 1) := by decide +kernel
theorem dX2_copyFrom_61 : decode cX2_copyFrom 61 = .ok (.aload_n 1, 1) := by decide +kernel
theorem dX2_copyFrom_62 : decode cX2_copyFrom 62 = .ok (.getfield 24, 3) := by decide +kernel
theorem dX2_copyFrom_65 : decode cX2_copyFrom 65 = .ok (.putfield 24, 3) := by decide +kernel
theorem dX2_copyFrom_68 : decode cX2_copyFrom 68 = .ok (.return_, 1) := by decide +kernel
theorem dX2_strengthBetween_0 : decode cX2_strengthBetween 0 = .ok (.iload_n 1, 1) := by decide +kernel
theorem dX2_strengthBetween_1 : decode cX2_strengthBetween 1 = .ok (.invokestatic 40, 3) := by decide +kernel
theorem dX2_strengthBetween_4 : decode cX2_strengthBetween 4 = .ok (.ifCond .eq 24, 3) := by decide +kernel
theorem dX2_strengthBetween_7 : decode cX2_strengthBetween 7 = .ok (.iload_n 2, 1) := by decide +kernel
theorem dX2_strengthBetween_8 : decode cX2_strengthBetween 8 = .ok (.invokestatic 40, 3) := by decide +kernel
theorem dX2_strengthBetween_11 : decode cX2_strengthBetween 11 = .ok (.ifCond .eq 17, 3) := by decide +kernel
theorem dX2_strengthBetween_14 : decode cX2_strengthBetween 14 = .ok (.aload_n 0, 1) := by decide +kernel
theorem dX2_strengthBetween_15 : decode cX2_strengthBetween 15 = .ok (.getfield 9, 3) := by decide +kernel
theorem dX2_strengthBetween_18 : decode cX2_strengthBetween 18 = .ok (.bipush 7, 2) := by decide +kernel
theorem dX2_strengthBetween_20 : decode cX2_strengthBetween 20 = .ok (.iload_n 1, 1) := by decide +kernel
theorem dX2_strengthBetween_21 : decode cX2_strengthBetween 21 = .ok (.imul, 1) := by decide +kernel
theorem dX2_strengthBetween_22 : decode cX2_strengthBetween 22 = .ok (.iload_n 2, 1) := by decide +kernel
theorem dX2_strengthBetween_23 : decode cX2_strengthBetween 23 = .ok (.iadd, 1) := by decide +kernel
theorem dX2_strengthBetween_24 : decode cX2_strengthBetween 24 = .ok (.iaload, 1) := by decide +kernel
theorem dX2_strengthBetween_25 : decode cX2_strengthBetween 25 = .ok (.goto 5, 3) := by decide +kernel
theorem dX2_strengthBetween_28 : decode cX2_strengthBetween 28 = .ok (.bipush (-6), 2) := by decide +kernel
theorem dX2_strengthBetween_30 : decode cX2_strengthBetween 30 = .ok (.ireturn, 1) := by decide +kernel
theorem dX2_setStrength_0 : decode cX2_setStrength 0 = .ok (.iload_n 1, 1) := by decide +kernel
theorem dX2_setStrength_1 : decode cX2_setStrength 1 = .ok (.iload_n 2, 1) := by decide +kernel
theorem dX2_setStrength_2 : decode cX2_setStrength 2 = .ok (.invokestatic 44, 3) := by decide +kernel
theorem dX2_setStrength_5 : decode cX2_setStrength 5 = .ok (.ifCond .eq 27, 3) := by decide +kernel
theorem dX2_setStrength_8 : decode cX2_setStrength 8 = .ok (.aload_n 0, 1) := by decide +kernel
theorem dX2_setStrength_9 : decode cX2_setStrength 9 = .ok (.getfield 9, 3) := by decide +kernel
theorem dX2_setStrength_12 : decode cX2_setStrength 12 = .ok (.bipush 7, 2) := by decide +kernel
theorem dX2_setStrength_14 : decode cX2_setStrength 14 = .ok (.iload_n 1, 1) := by decide +kernel
theorem dX2_setStrength_15 : decode cX2_setStrength 15 = .ok (.imul, 1) := by decide +kernel
theorem dX2_setStrength_16 : decode cX2_setStrength 16 = .ok (.iload_n 2, 1) := by decide +kernel
theorem dX2_setStrength_17 : decode cX2_setStrength 17 = .ok (.iadd, 1) := by decide +kernel
theorem dX2_setStrength_18 : decode cX2_setStrength 18 = .ok (.iload_n 3, 1) := by decide +kernel
theorem dX2_setStrength_19 : decode cX2_setStrength 19 = .ok (.iastore, 1) := by decide +kernel
theorem dX2_setStrength_20 : decode cX2_setStrength 20 = .ok (.aload_n 0, 1) := by decide +kernel
theorem dX2_setStrength_21 : decode cX2_setStrength 21 = .ok (.getfield 9, 3) := by decide +kernel
theorem dX2_setStrength_24 : decode cX2_setStrength 24 = .ok (.bipush 7, 2) := by decide +kernel
theorem dX2_setStrength_26 : decode cX2_setStrength 26 = .ok (.iload_n 2, 1) := by decide +kernel
theorem dX2_setStrength_27 : decode cX2_setStrength 27 = .ok (.imul, 1) := by decide +kernel
theorem dX2_setStrength_28 : decode cX2_setStrength 28 = .ok (.iload_n 1, 1) := by decide +kernel
theorem dX2_setStrength_29 : decode cX2_setStrength 29 = .ok (.iadd, 1) := by decide +kernel
theorem dX2_setStrength_30 : decode cX2_setStrength 30 = .ok (.iload_n 3, 1) := by decide +kernel
theorem dX2_setStrength_31 : decode cX2_setStrength 31 = .ok (.iastore, 1) := by decide +kernel
theorem dX2_setStrength_32 : decode cX2_setStrength 32 = .ok (.return_, 1) := by decide +kernel
theorem dX2_milesBetween_0 : decode cX2_milesBetween 0 = .ok (.iload_n 1, 1) := by decide +kernel
theorem dX2_milesBetween_1 : decode cX2_milesBetween 1 = .ok (.invokestatic 40, 3) := by decide +kernel
theorem dX2_milesBetween_4 : decode cX2_milesBetween 4 = .ok (.ifCond .eq 24, 3) := by decide +kernel
theorem dX2_milesBetween_7 : decode cX2_milesBetween 7 = .ok (.iload_n 2, 1) := by decide +kernel
theorem dX2_milesBetween_8 : decode cX2_milesBetween 8 = .ok (.invokestatic 40, 3) := by decide +kernel
theorem dX2_milesBetween_11 : decode cX2_milesBetween 11 = .ok (.ifCond .eq 17, 3) := by decide +kernel
theorem dX2_milesBetween_14 : decode cX2_milesBetween 14 = .ok (.aload_n 0, 1) := by decide +kernel
theorem dX2_milesBetween_15 : decode cX2_milesBetween 15 = .ok (.getfield 15, 3) := by decide +kernel
theorem dX2_milesBetween_18 : decode cX2_milesBetween 18 = .ok (.bipush 7, 2) := by decide +kernel
theorem dX2_milesBetween_20 : decode cX2_milesBetween 20 = .ok (.iload_n 1, 1) := by decide +kernel
theorem dX2_milesBetween_21 : decode cX2_milesBetween 21 = .ok (.imul, 1) := by decide +kernel
theorem dX2_milesBetween_22 : decode cX2_milesBetween 22 = .ok (.iload_n 2, 1) := by decide +kernel
theorem dX2_milesBetween_23 : decode cX2_milesBetween 23 = .ok (.iadd, 1) := by decide +kernel
theorem dX2_milesBetween_24 : decode cX2_milesBetween 24 = .ok (.iaload, 1) := by decide +kernel
theorem dX2_milesBetween_25 : decode cX2_milesBetween 25 = .ok (.goto 4, 3) := by decide +kernel
theorem dX2_milesBetween_28 : decode cX2_milesBetween 28 = .ok (.iconst 0, 1) := by decide +kernel
theorem dX2_milesBetween_29 : decode cX2_milesBetween 29 = .ok (.ireturn, 1) := by decide +kernel
theorem dX2_setMiles_0 : decode cX2_setMiles 0 = .ok (.iload_n 1, 1) := by decide +kernel
theorem dX2_setMiles_1 : decode cX2_setMiles 1 = .ok (.iload_n 2, 1) := by decide +kernel
theorem dX2_setMiles_2 : decode cX2_setMiles 2 = .ok (.invokestatic 44, 3) := by decide +kernel
theorem dX2_setMiles_5 : decode cX2_setMiles 5 = .ok (.ifCond .eq 27, 3) := by decide +kernel
theorem dX2_setMiles_8 : decode cX2_setMiles 8 = .ok (.aload_n 0, 1) := by decide +kernel
theorem dX2_setMiles_9 : decode cX2_setMiles 9 = .ok (.getfield 15, 3) := by decide +kernel
theorem dX2_setMiles_12 : decode cX2_setMiles 12 = .ok (.bipush 7, 2) := by decide +kernel
theorem dX2_setMiles_14 : decode cX2_setMiles 14 = .ok (.iload_n 1, 1) := by decide +kernel
theorem dX2_setMiles_15 : decode cX2_setMiles 15 = .ok (.imul, 1) := by decide +kernel
theorem dX2_setMiles_16 : decode cX2_setMiles 16 = .ok (.iload_n 2, 1) := by decide +kernel
theorem dX2_setMiles_17 : decode cX2_setMiles 17 = .ok (.iadd, 1) := by decide +kernel
theorem dX2_setMiles_18 : decode cX2_setMiles 18 = .ok (.iload_n 3, 1) := by decide +kernel
theorem dX2_setMiles_19 : decode cX2_setMiles 19 = .ok (.iastore, 1) := by decide +kernel
theorem dX2_setMiles_20 : decode cX2_setMiles 20 = .ok (.aload_n 0, 1) := by decide +kernel
theorem dX2_setMiles_21 : decode cX2_setMiles 21 = .ok (.getfield 15, 3) := by decide +kernel
theorem dX2_setMiles_24 : decode cX2_setMiles 24 = .ok (.bipush 7, 2) := by decide +kernel
theorem dX2_setMiles_26 : decode cX2_setMiles 26 = .ok (.iload_n 2, 1) := by decide +kernel
theorem dX2_setMiles_27 : decode cX2_setMiles 27 = .ok (.imul, 1) := by decide +kernel
theorem dX2_setMiles_28 : decode cX2_setMiles 28 = .ok (.iload_n 1, 1) := by decide +kernel
theorem dX2_setMiles_29 : decode cX2_setMiles 29 = .ok (.iadd, 1) := by decide +kernel
theorem dX2_setMiles_30 : decode cX2_setMiles 30 = .ok (.iload_n 3, 1) := by decide +kernel
theorem dX2_setMiles_31 : decode cX2_setMiles 31 = .ok (.iastore, 1) := by decide +kernel
theorem dX2_setMiles_32 : decode cX2_setMiles 32 = .ok (.return_, 1) := by decide +kernel
theorem dX2_placeOf_0 : decode cX2_placeOf 0 = .ok (.iload_n 1, 1) := by decide +kernel
theorem dX2_placeOf_1 : decode cX2_placeOf 1 = .ok (.invokestatic 40, 3) := by decide +kernel
theorem dX2_placeOf_4 : decode cX2_placeOf 4 = .ok (.ifCond .eq 12, 3) := by decide +kernel
theorem dX2_placeOf_7 : decode cX2_placeOf 7 = .ok (.aload_n 0, 1) := by decide +kernel
theorem dX2_placeOf_8 : decode cX2_placeOf 8 = .ok (.getfield 18, 3) := by decide +kernel
theorem dX2_placeOf_11 : decode cX2_placeOf 11 = .ok (.iload_n 1, 1) := by decide +kernel
theorem dX2_placeOf_12 : decode cX2_placeOf 12 = .ok (.iaload, 1) := by decide +kernel
theorem dX2_placeOf_13 : decode cX2_placeOf 13 = .ok (.goto 5, 3) := by decide +kernel
theorem dX2_placeOf_16 : decode cX2_placeOf 16 = .ok (.bipush (-6), 2) := by decide +kernel
theorem dX2_placeOf_18 : decode cX2_placeOf 18 = .ok (.ireturn, 1) := by decide +kernel
theorem dX2_cowsOf_0 : decode cX2_cowsOf 0 = .ok (.iload_n 1, 1) := by decide +kernel
theorem dX2_cowsOf_1 : decode cX2_cowsOf 1 = .ok (.invokestatic 40, 3) := by decide +kernel
theorem dX2_cowsOf_4 : decode cX2_cowsOf 4 = .ok (.ifCond .eq 12, 3) := by decide +kernel
theorem dX2_cowsOf_7 : decode cX2_cowsOf 7 = .ok (.aload_n 0, 1) := by decide +kernel
theorem dX2_cowsOf_8 : decode cX2_cowsOf 8 = .ok (.getfield 21, 3) := by decide +kernel
theorem dX2_cowsOf_11 : decode cX2_cowsOf 11 = .ok (.iload_n 1, 1) := by decide +kernel
theorem dX2_cowsOf_12 : decode cX2_cowsOf 12 = .ok (.iaload, 1) := by decide +kernel
theorem dX2_cowsOf_13 : decode cX2_cowsOf 13 = .ok (.goto 4, 3) := by decide +kernel
theorem dX2_cowsOf_16 : decode cX2_cowsOf 16 = .ok (.iconst 0, 1) := by decide +kernel
theorem dX2_cowsOf_17 : decode cX2_cowsOf 17 = .ok (.ireturn, 1) := by decide +kernel
theorem dX2_settle_0 : decode cX2_settle 0 = .ok (.iload_n 1, 1) := by decide +kernel
theorem dX2_settle_1 : decode cX2_settle 1 = .ok (.invokestatic 40, 3) := by decide +kernel
theorem dX2_settle_4 : decode cX2_settle 4 = .ok (.ifCond .eq 24, 3) := by decide +kernel
theorem dX2_settle_7 : decode cX2_settle 7 = .ok (.iload_n 3, 1) := by decide +kernel
theorem dX2_settle_8 : decode cX2_settle 8 = .ok (.invokestatic 40, 3) := by decide +kernel
theorem dX2_settle_11 : decode cX2_settle 11 = .ok (.ifCond .eq 17, 3) := by decide +kernel
theorem dX2_settle_14 : decode cX2_settle 14 = .ok (.aload_n 0, 1) := by decide +kernel
theorem dX2_settle_15 : decode cX2_settle 15 = .ok (.getfield 21, 3) := by decide +kernel
theorem dX2_settle_18 : decode cX2_settle 18 = .ok (.iload_n 1, 1) := by decide +kernel
theorem dX2_settle_19 : decode cX2_settle 19 = .ok (.iload_n 2, 1) := by decide +kernel
theorem dX2_settle_20 : decode cX2_settle 20 = .ok (.iastore, 1) := by decide +kernel
theorem dX2_settle_21 : decode cX2_settle 21 = .ok (.aload_n 0, 1) := by decide +kernel
theorem dX2_settle_22 : decode cX2_settle 22 = .ok (.getfield 18, 3) := by decide +kernel
theorem dX2_settle_25 : decode cX2_settle 25 = .ok (.iload_n 1, 1) := by decide +kernel
theorem dX2_settle_26 : decode cX2_settle 26 = .ok (.iload_n 3, 1) := by decide +kernel
theorem dX2_settle_27 : decode cX2_settle 27 = .ok (.iastore, 1) := by decide +kernel
theorem dX2_settle_28 : decode cX2_settle 28 = .ok (.return_, 1) := by decide +kernel
theorem dX2_countPales_0 : decode cX2_countPales 0 = .ok (.aload_n 0, 1) := by decide +kernel
theorem dX2_countPales_1 : decode cX2_countPales 1 = .ok (.iconst 0, 1) := by decide +kernel
theorem dX2_countPales_2 : decode cX2_countPales 2 = .ok (.bipush 9, 2) := by decide +kernel
theorem dX2_countPales_4 : decode cX2_countPales 4 = .ok (.invokevirtual 48, 3) := by decide +kernel
theorem dX2_countPales_7 : decode cX2_countPales 7 = .ok (.ireturn, 1) := by decide +kernel
theorem dX2_countGaps_0 : decode cX2_countGaps 0 = .ok (.aload_n 0, 1) := by decide +kernel
theorem dX2_countGaps_1 : decode cX2_countGaps 1 = .ok (.iconst 0, 1) := by decide +kernel
theorem dX2_countGaps_2 : decode cX2_countGaps 2 = .ok (.iconst 0, 1) := by decide +kernel
theorem dX2_countGaps_3 : decode cX2_countGaps 3 = .ok (.invokevirtual 48, 3) := by decide +kernel
theorem dX2_countGaps_6 : decode cX2_countGaps 6 = .ok (.ireturn, 1) := by decide +kernel
theorem dX2_countStrengths_0 : decode cX2_countStrengths 0 = .ok (.iconst 0, 1) := by decide +kernel
theorem dX2_countStrengths_1 : decode cX2_countStrengths 1 = .ok (.istore_n 3, 1) := by decide +kernel
theorem dX2_countStrengths_2 : decode cX2_countStrengths 2 = .ok (.iconst 0, 1) := by decide +kernel
theorem dX2_countStrengths_3 : decode cX2_countStrengths 3 = .ok (.istore 4, 2) := by decide +kernel
theorem dX2_countStrengths_5 : decode cX2_countStrengths 5 = .ok (.iload 4, 2) := by decide +kernel
theorem dX2_countStrengths_7 : decode cX2_countStrengths 7 = .ok (.bipush 7, 2) := by decide +kernel
theorem dX2_countStrengths_9 : decode cX2_countStrengths 9 = .ok (.if_icmp .ge 58, 3) := by decide +kernel
theorem dX2_countStrengths_12 : decode cX2_countStrengths 12 = .ok (.iload 4, 2) := by decide +kernel
theorem dX2_countStrengths_14 : decode cX2_countStrengths 14 = .ok (.iconst 1, 1) := by decide +kernel
theorem dX2_countStrengths_15 : decode cX2_countStrengths 15 = .ok (.iadd, 1) := by decide +kernel
theorem dX2_countStrengths_16 : decode cX2_countStrengths 16 = .ok (.istore 5, 2) := by decide +kernel
theorem dX2_countStrengths_18 : decode cX2_countStrengths 18 = .ok (.iload 5, 2) := by decide +kernel
theorem dX2_countStrengths_20 : decode cX2_countStrengths 20 = .ok (.bipush 7, 2) := by decide +kernel
theorem dX2_countStrengths_22 : decode cX2_countStrengths 22 = .ok (.if_icmp .ge 39, 3) := by decide +kernel
theorem dX2_countStrengths_25 : decode cX2_countStrengths 25 = .ok (.aload_n 0, 1) := by decide +kernel
theorem dX2_countStrengths_26 : decode cX2_countStrengths 26 = .ok (.getfield 9, 3) := by decide +kernel
theorem dX2_countStrengths_29 : decode cX2_countStrengths 29 = .ok (.bipush 7, 2) := by decide +kernel
theorem dX2_countStrengths_31 : decode cX2_countStrengths 31 = .ok (.iload 4, 2) := by decide +kernel
theorem dX2_countStrengths_33 : decode cX2_countStrengths 33 = .ok (.imul, 1) := by decide +kernel
theorem dX2_countStrengths_34 : decode cX2_countStrengths 34 = .ok (.iload 5, 2) := by decide +kernel
theorem dX2_countStrengths_36 : decode cX2_countStrengths 36 = .ok (.iadd, 1) := by decide +kernel
theorem dX2_countStrengths_37 : decode cX2_countStrengths 37 = .ok (.iaload, 1) := by decide +kernel
theorem dX2_countStrengths_38 : decode cX2_countStrengths 38 = .ok (.istore 6, 2) := by decide +kernel
theorem dX2_countStrengths_40 : decode cX2_countStrengths 40 = .ok (.iload 6, 2) := by decide +kernel
theorem dX2_countStrengths_42 : decode cX2_countStrengths 42 = .ok (.iload_n 1, 1) := by decide +kernel
theorem dX2_countStrengths_43 : decode cX2_countStrengths 43 = .ok (.if_icmp .lt 12, 3) := by decide +kernel
theorem dX2_countStrengths_46 : decode cX2_countStrengths 46 = .ok (.iload 6, 2) := by decide +kernel
theorem dX2_countStrengths_48 : decode cX2_countStrengths 48 = .ok (.iload_n 2, 1) := by decide +kernel
theorem dX2_countStrengths_49 : decode cX2_countStrengths 49 = .ok (.if_icmp .gt 6, 3) := by decide +kernel
theorem dX2_countStrengths_52 : decode cX2_countStrengths 52 = .ok (.iinc 3 1, 3) := by decide +kernel
theorem dX2_countStrengths_55 : decode cX2_countStrengths 55 = .ok (.iinc 5 1, 3) := by decide +kernel
theorem dX2_countStrengths_58 : decode cX2_countStrengths 58 = .ok (.goto (-40), 3) := by decide +kernel
theorem dX2_countStrengths_61 : decode cX2_countStrengths 61 = .ok (.iinc 4 1, 3) := by decide +kernel
theorem dX2_countStrengths_64 : decode cX2_countStrengths 64 = .ok (.goto (-59), 3) := by decide +kernel
theorem dX2_countStrengths_67 : decode cX2_countStrengths 67 = .ok (.iload_n 3, 1) := by decide +kernel
theorem dX2_countStrengths_68 : decode cX2_countStrengths 68 = .ok (.ireturn, 1) := by decide +kernel
theorem dX2_awayBits_0 : decode cX2_awayBits 0 = .ok (.iconst 0, 1) := by decide +kernel
theorem dX2_awayBits_1 : decode cX2_awayBits 1 = .ok (.istore_n 1, 1) := by decide +kernel
theorem dX2_awayBits_2 : decode cX2_awayBits 2 = .ok (.iconst 0, 1) := by decide +kernel
theorem dX2_awayBits_3 : decode cX2_awayBits 3 = .ok (.istore_n 2, 1) := by decide +kernel
theorem dX2_awayBits_4 : decode cX2_awayBits 4 = .ok (.iload_n 2, 1) := by decide +kernel
theorem dX2_awayBits_5 : decode cX2_awayBits 5 = .ok (.bipush 7, 2) := by decide +kernel
theorem dX2_awayBits_7 : decode cX2_awayBits 7 = .ok (.if_icmp .ge 25, 3) := by decide +kernel
theorem dX2_awayBits_10 : decode cX2_awayBits 10 = .ok (.aload_n 0, 1) := by decide +kernel
theorem dX2_awayBits_11 : decode cX2_awayBits 11 = .ok (.getfield 18, 3) := by decide +kernel
theorem dX2_awayBits_14 : decode cX2_awayBits 14 = .ok (.iload_n 2, 1) := by decide +kernel
theorem dX2_awayBits_15 : decode cX2_awayBits 15 = .ok (.iaload, 1) := by decide +kernel
theorem dX2_awayBits_16 : decode cX2_awayBits 16 = .ok (.iload_n 2, 1) := by decide +kernel
theorem dX2_awayBits_17 : decode cX2_awayBits 17 = .ok (.if_icmp .eq 9, 3) := by decide +kernel
theorem dX2_awayBits_20 : decode cX2_awayBits 20 = .ok (.iload_n 1, 1) := by decide +kernel
theorem dX2_awayBits_21 : decode cX2_awayBits 21 = .ok (.iconst 1, 1) := by decide +kernel
theorem dX2_awayBits_22 : decode cX2_awayBits 22 = .ok (.iload_n 2, 1) := by decide +kernel
theorem dX2_awayBits_23 : decode cX2_awayBits 23 = .ok (.ishl, 1) := by decide +kernel
theorem dX2_awayBits_24 : decode cX2_awayBits 24 = .ok (.ior, 1) := by decide +kernel
theorem dX2_awayBits_25 : decode cX2_awayBits 25 = .ok (.istore_n 1, 1) := by decide +kernel
theorem dX2_awayBits_26 : decode cX2_awayBits 26 = .ok (.iinc 2 1, 3) := by decide +kernel
theorem dX2_awayBits_29 : decode cX2_awayBits 29 = .ok (.goto (-25), 3) := by decide +kernel
theorem dX2_awayBits_32 : decode cX2_awayBits 32 = .ok (.iload_n 1, 1) := by decide +kernel
theorem dX2_awayBits_33 : decode cX2_awayBits 33 = .ok (.ireturn, 1) := by decide +kernel
theorem dX2_toBeMended_0 : decode cX2_toBeMended 0 = .ok (.iconst 0, 1) := by decide +kernel
theorem dX2_toBeMended_1 : decode cX2_toBeMended 1 = .ok (.istore_n 2, 1) := by decide +kernel
theorem dX2_toBeMended_2 : decode cX2_toBeMended 2 = .ok (.iconst 0, 1) := by decide +kernel
theorem dX2_toBeMended_3 : decode cX2_toBeMended 3 = .ok (.istore_n 3, 1) := by decide +kernel
theorem dX2_toBeMended_4 : decode cX2_toBeMended 4 = .ok (.iload_n 3, 1) := by decide +kernel
theorem dX2_toBeMended_5 : decode cX2_toBeMended 5 = .ok (.bipush 7, 2) := by decide +kernel
theorem dX2_toBeMended_7 : decode cX2_toBeMended 7 = .ok (.if_icmp .ge 35, 3) := by decide +kernel
theorem dX2_toBeMended_10 : decode cX2_toBeMended 10 = .ok (.aload_n 0, 1) := by decide +kernel
theorem dX2_toBeMended_11 : decode cX2_toBeMended 11 = .ok (.iload_n 1, 1) := by decide +kernel
theorem dX2_toBeMended_12 : decode cX2_toBeMended 12 = .ok (.iload_n 3, 1) := by decide +kernel
theorem dX2_toBeMended_13 : decode cX2_toBeMended 13 = .ok (.invokevirtual 52, 3) := by decide +kernel
theorem dX2_toBeMended_16 : decode cX2_toBeMended 16 = .ok (.istore 4, 2) := by decide +kernel
theorem dX2_toBeMended_18 : decode cX2_toBeMended 18 = .ok (.iload 4, 2) := by decide +kernel
theorem dX2_toBeMended_20 : decode cX2_toBeMended 20 = .ok (.ifCond .lt 16, 3) := by decide +kernel
theorem dX2_toBeMended_23 : decode cX2_toBeMended 23 = .ok (.iload 4, 2) := by decide +kernel
theorem dX2_toBeMended_25 : decode cX2_toBeMended 25 = .ok (.bipush 9, 2) := by decide +kernel
theorem dX2_toBeMended_27 : decode cX2_toBeMended 27 = .ok (.if_icmp .ge 9, 3) := by decide +kernel
theorem dX2_toBeMended_30 : decode cX2_toBeMended 30 = .ok (.iload_n 2, 1) := by decide +kernel
theorem dX2_toBeMended_31 : decode cX2_toBeMended 31 = .ok (.iconst 1, 1) := by decide +kernel
theorem dX2_toBeMended_32 : decode cX2_toBeMended 32 = .ok (.iload_n 3, 1) := by decide +kernel
theorem dX2_toBeMended_33 : decode cX2_toBeMended 33 = .ok (.ishl, 1) := by decide +kernel
theorem dX2_toBeMended_34 : decode cX2_toBeMended 34 = .ok (.ior, 1) := by decide +kernel
theorem dX2_toBeMended_35 : decode cX2_toBeMended 35 = .ok (.istore_n 2, 1) := by decide +kernel
theorem dX2_toBeMended_36 : decode cX2_toBeMended 36 = .ok (.iinc 3 1, 3) := by decide +kernel
theorem dX2_toBeMended_39 : decode cX2_toBeMended 39 = .ok (.goto (-35), 3) := by decide +kernel
theorem dX2_toBeMended_42 : decode cX2_toBeMended 42 = .ok (.iload_n 2, 1) := by decide +kernel
theorem dX2_toBeMended_43 : decode cX2_toBeMended 43 = .ok (.ireturn, 1) := by decide +kernel
theorem dX2_whyNot_0 : decode cX2_whyNot 0 = .ok (.iload_n 1, 1) := by decide +kernel
theorem dX2_whyNot_1 : decode cX2_whyNot 1 = .ok (.tableswitch 65 0 3 #[31, 38, 44, 51], 31) := by decide +kernel
theorem dX2_whyNot_32 : decode cX2_whyNot 32 = .ok (.aload_n 0, 1) := by decide +kernel
theorem dX2_whyNot_33 : decode cX2_whyNot 33 = .ok (.iload_n 2, 1) := by decide +kernel
theorem dX2_whyNot_34 : decode cX2_whyNot 34 = .ok (.iload_n 3, 1) := by decide +kernel
theorem dX2_whyNot_35 : decode cX2_whyNot 35 = .ok (.invokevirtual 55, 3) := by decide +kernel
theorem dX2_whyNot_38 : decode cX2_whyNot 38 = .ok (.ireturn, 1) := by decide +kernel
theorem dX2_whyNot_39 : decode cX2_whyNot 39 = .ok (.aload_n 0, 1) := by decide +kernel
theorem dX2_whyNot_40 : decode cX2_whyNot 40 = .ok (.iload_n 2, 1) := by decide +kernel
theorem dX2_whyNot_41 : decode cX2_whyNot 41 = .ok (.invokevirtual 58, 3) := by decide +kernel
theorem dX2_whyNot_44 : decode cX2_whyNot 44 = .ok (.ireturn, 1) := by decide +kernel
theorem dX2_whyNot_45 : decode cX2_whyNot 45 = .ok (.aload_n 0, 1) := by decide +kernel
theorem dX2_whyNot_46 : decode cX2_whyNot 46 = .ok (.iload_n 2, 1) := by decide +kernel
theorem dX2_whyNot_47 : decode cX2_whyNot 47 = .ok (.iload_n 3, 1) := by decide +kernel
theorem dX2_whyNot_48 : decode cX2_whyNot 48 = .ok (.invokevirtual 62, 3) := by decide +kernel
theorem dX2_whyNot_51 : decode cX2_whyNot 51 = .ok (.ireturn, 1) := by decide +kernel
theorem dX2_whyNot_52 : decode cX2_whyNot 52 = .ok (.aload_n 0, 1) := by decide +kernel
theorem dX2_whyNot_53 : decode cX2_whyNot 53 = .ok (.invokevirtual 65, 3) := by decide +kernel
theorem dX2_whyNot_56 : decode cX2_whyNot 56 = .ok (.ifCond .ne 8, 3) := by decide +kernel
theorem dX2_whyNot_59 : decode cX2_whyNot 59 = .ok (.bipush 6, 2) := by decide +kernel
theorem dX2_whyNot_61 : decode cX2_whyNot 61 = .ok (.goto 4, 3) := by decide +kernel
theorem dX2_whyNot_64 : decode cX2_whyNot 64 = .ok (.iconst 0, 1) := by decide +kernel
theorem dX2_whyNot_65 : decode cX2_whyNot 65 = .ok (.ireturn, 1) := by decide +kernel
theorem dX2_whyNot_66 : decode cX2_whyNot 66 = .ok (.aload_n 0, 1) := by decide +kernel
theorem dX2_whyNot_67 : decode cX2_whyNot 67 = .ok (.getfield 24, 3) := by decide +kernel
theorem dX2_whyNot_70 : decode cX2_whyNot 70 = .ok (.bipush 99, 2) := by decide +kernel
theorem dX2_whyNot_72 : decode cX2_whyNot 72 = .ok (.if_icmp .lt 8, 3) := by decide +kernel
theorem dX2_whyNot_75 : decode cX2_whyNot 75 = .ok (.bipush 7, 2) := by decide +kernel
theorem dX2_whyNot_77 : decode cX2_whyNot 77 = .ok (.goto 4, 3) := by decide +kernel
theorem dX2_whyNot_80 : decode cX2_whyNot 80 = .ok (.iconst 0, 1) := by decide +kernel
theorem dX2_whyNot_81 : decode cX2_whyNot 81 = .ok (.ireturn, 1) := by decide +kernel
theorem dX2_whyNoWalk_0 : decode cX2_whyNoWalk 0 = .ok (.aload_n 0, 1) := by decide +kernel
theorem dX2_whyNoWalk_1 : decode cX2_whyNoWalk 1 = .ok (.iload_n 1, 1) := by decide +kernel
theorem dX2_whyNoWalk_2 : decode cX2_whyNoWalk 2 = .ok (.invokevirtual 69, 3) := by decide +kernel
theorem dX2_whyNoWalk_5 : decode cX2_whyNoWalk 5 = .ok (.iload_n 2, 1) := by decide +kernel
theorem dX2_whyNoWalk_6 : decode cX2_whyNoWalk 6 = .ok (.if_icmp .ne 5, 3) := by decide +kernel
theorem dX2_whyNoWalk_9 : decode cX2_whyNoWalk 9 = .ok (.iconst 1, 1) := by decide +kernel
theorem dX2_whyNoWalk_10 : decode cX2_whyNoWalk 10 = .ok (.ireturn, 1) := by decide +kernel
theorem dX2_whyNoWalk_11 : decode cX2_whyNoWalk 11 = .ok (.aload_n 0, 1) := by decide +kernel
theorem dX2_whyNoWalk_12 : decode cX2_whyNoWalk 12 = .ok (.aload_n 0, 1) := by decide +kernel
theorem dX2_whyNoWalk_13 : decode cX2_whyNoWalk 13 = .ok (.iload_n 1, 1) := by decide +kernel
theorem dX2_whyNoWalk_14 : decode cX2_whyNoWalk 14 = .ok (.invokevirtual 69, 3) := by decide +kernel
theorem dX2_whyNoWalk_17 : decode cX2_whyNoWalk 17 = .ok (.iload_n 2, 1) := by decide +kernel
theorem dX2_whyNoWalk_18 : decode cX2_whyNoWalk 18 = .ok (.invokevirtual 72, 3) := by decide +kernel
theorem dX2_whyNoWalk_21 : decode cX2_whyNoWalk 21 = .ok (.ifCond .ne 7, 3) := by decide +kernel
theorem dX2_whyNoWalk_24 : decode cX2_whyNoWalk 24 = .ok (.iconst 2, 1) := by decide +kernel
theorem dX2_whyNoWalk_25 : decode cX2_whyNoWalk 25 = .ok (.goto 4, 3) := by decide +kernel
theorem dX2_whyNoWalk_28 : decode cX2_whyNoWalk 28 = .ok (.iconst 0, 1) := by decide +kernel
theorem dX2_whyNoWalk_29 : decode cX2_whyNoWalk 29 = .ok (.ireturn, 1) := by decide +kernel
theorem dX2_whyNoMending_0 : decode cX2_whyNoMending 0 = .ok (.aload_n 0, 1) := by decide +kernel
theorem dX2_whyNoMending_1 : decode cX2_whyNoMending 1 = .ok (.iload_n 1, 1) := by decide +kernel
theorem dX2_whyNoMending_2 : decode cX2_whyNoMending 2 = .ok (.invokevirtual 69, 3) := by decide +kernel
theorem dX2_whyNoMending_5 : decode cX2_whyNoMending 5 = .ok (.iload_n 1, 1) := by decide +kernel
theorem dX2_whyNoMending_6 : decode cX2_whyNoMending 6 = .ok (.if_icmp .ne 5, 3) := by decide +kernel
theorem dX2_whyNoMending_9 : decode cX2_whyNoMending 9 = .ok (.iconst 3, 1) := by decide +kernel
theorem dX2_whyNoMending_10 : decode cX2_whyNoMending 10 = .ok (.ireturn, 1) := by decide +kernel
theorem dX2_whyNoMending_11 : decode cX2_whyNoMending 11 = .ok (.aload_n 0, 1) := by decide +kernel
theorem dX2_whyNoMending_12 : decode cX2_whyNoMending 12 = .ok (.iload_n 1, 1) := by decide +kernel
theorem dX2_whyNoMending_13 : decode cX2_whyNoMending 13 = .ok (.aload_n 0, 1) := by decide +kernel
theorem dX2_whyNoMending_14 : decode cX2_whyNoMending 14 = .ok (.iload_n 1, 1) := by decide +kernel
theorem dX2_whyNoMending_15 : decode cX2_whyNoMending 15 = .ok (.invokevirtual 69, 3) := by decide +kernel
theorem dX2_whyNoMending_18 : decode cX2_whyNoMending 18 = .ok (.invokevirtual 52, 3) := by decide +kernel
theorem dX2_whyNoMending_21 : decode cX2_whyNoMending 21 = .ok (.bipush 9, 2) := by decide +kernel
theorem dX2_whyNoMending_23 : decode cX2_whyNoMending 23 = .ok (.invokestatic 75, 3) := by decide +kernel
theorem dX2_whyNoMending_26 : decode cX2_whyNoMending 26 = .ok (.ireturn, 1) := by decide +kernel
theorem dX2_whyNoBreaking_0 : decode cX2_whyNoBreaking 0 = .ok (.aload_n 0, 1) := by decide +kernel
theorem dX2_whyNoBreaking_1 : decode cX2_whyNoBreaking 1 = .ok (.iload_n 1, 1) := by decide +kernel
theorem dX2_whyNoBreaking_2 : decode cX2_whyNoBreaking 2 = .ok (.invokevirtual 69, 3) := by decide +kernel
theorem dX2_whyNoBreaking_5 : decode cX2_whyNoBreaking 5 = .ok (.iload_n 1, 1) := by decide +kernel
theorem dX2_whyNoBreaking_6 : decode cX2_whyNoBreaking 6 = .ok (.if_icmp .eq 5, 3) := by decide +kernel
theorem dX2_whyNoBreaking_9 : decode cX2_whyNoBreaking 9 = .ok (.iconst 3, 1) := by decide +kernel
theorem dX2_whyNoBreaking_10 : decode cX2_whyNoBreaking 10 = .ok (.ireturn, 1) := by decide +kernel
theorem dX2_whyNoBreaking_11 : decode cX2_whyNoBreaking 11 = .ok (.aload_n 0, 1) := by decide +kernel
theorem dX2_whyNoBreaking_12 : decode cX2_whyNoBreaking 12 = .ok (.iload_n 1, 1) := by decide +kernel
theorem dX2_whyNoBreaking_13 : decode cX2_whyNoBreaking 13 = .ok (.iload_n 2, 1) := by decide +kernel
theorem dX2_whyNoBreaking_14 : decode cX2_whyNoBreaking 14 = .ok (.invokevirtual 52, 3) := by decide +kernel
theorem dX2_whyNoBreaking_17 : decode cX2_whyNoBreaking 17 = .ok (.iconst 0, 1) := by decide +kernel
theorem dX2_whyNoBreaking_18 : decode cX2_whyNoBreaking 18 = .ok (.invokestatic 75, 3) := by decide +kernel
theorem dX2_whyNoBreaking_21 : decode cX2_whyNoBreaking 21 = .ok (.ireturn, 1) := by decide +kernel
theorem dX2_whyNotFrom_0 : decode cX2_whyNotFrom 0 = .ok (.iload_n 0, 1) := by decide +kernel
theorem dX2_whyNotFrom_1 : decode cX2_whyNotFrom 1 = .ok (.ifCond .ge 5, 3) := by decide +kernel
theorem dX2_whyNotFrom_4 : decode cX2_whyNotFrom 4 = .ok (.iconst 4, 1) := by decide +kernel
theorem dX2_whyNotFrom_5 : decode cX2_whyNotFrom 5 = .ok (.ireturn, 1) := by decide +kernel
theorem dX2_whyNotFrom_6 : decode cX2_whyNotFrom 6 = .ok (.iload_n 0, 1) := by decide +kernel
theorem dX2_whyNotFrom_7 : decode cX2_whyNotFrom 7 = .ok (.iload_n 1, 1) := by decide +kernel
theorem dX2_whyNotFrom_8 : decode cX2_whyNotFrom 8 = .ok (.if_icmp .ne 7, 3) := by decide +kernel
theorem dX2_whyNotFrom_11 : decode cX2_whyNotFrom 11 = .ok (.iconst 5, 1) := by decide +kernel
theorem dX2_whyNotFrom_12 : decode cX2_whyNotFrom 12 = .ok (.goto 4, 3) := by decide +kernel
theorem dX2_whyNotFrom_15 : decode cX2_whyNotFrom 15 = .ok (.iconst 0, 1) := by decide +kernel
theorem dX2_whyNotFrom_16 : decode cX2_whyNotFrom 16 = .ok (.ireturn, 1) := by decide +kernel
theorem dX2_perform_0 : decode cX2_perform 0 = .ok (.iload_n 1, 1) := by decide +kernel
theorem dX2_perform_1 : decode cX2_perform 1 = .ok (.tableswitch 83 0 3 #[31, 45, 58, 75], 31) := by decide +kernel
theorem dX2_perform_32 : decode cX2_perform 32 = .ok (.aload_n 0, 1) := by decide +kernel
theorem dX2_perform_33 : decode cX2_perform 33 = .ok (.iload_n 2, 1) := by decide +kernel
theorem dX2_perform_34 : decode cX2_perform 34 = .ok (.aload_n 0, 1) := by decide +kernel
theorem dX2_perform_35 : decode cX2_perform 35 = .ok (.iload_n 2, 1) := by decide +kernel
theorem dX2_perform_36 : decode cX2_perform 36 = .ok (.invokevirtual 78, 3) := by decide +kernel
theorem dX2_perform_39 : decode cX2_perform 39 = .ok (.iload_n 3, 1) := by decide +kernel
theorem dX2_perform_40 : decode cX2_perform 40 = .ok (.invokevirtual 81, 3) := by decide +kernel
theorem dX2_perform_43 : decode cX2_perform 43 = .ok (.goto 45, 3) := by decide +kernel
theorem dX2_perform_46 : decode cX2_perform 46 = .ok (.aload_n 0, 1) := by decide +kernel
theorem dX2_perform_47 : decode cX2_perform 47 = .ok (.iload_n 2, 1) := by decide +kernel
theorem dX2_perform_48 : decode cX2_perform 48 = .ok (.aload_n 0, 1) := by decide +kernel
theorem dX2_perform_49 : decode cX2_perform 49 = .ok (.iload_n 2, 1) := by decide +kernel
theorem dX2_perform_50 : decode cX2_perform 50 = .ok (.invokevirtual 69, 3) := by decide +kernel
theorem dX2_perform_53 : decode cX2_perform 53 = .ok (.invokevirtual 85, 3) := by decide +kernel
theorem dX2_perform_56 : decode cX2_perform 56 = .ok (.goto 32, 3) := by decide +kernel
theorem dX2_perform_59 : decode cX2_perform 59 = .ok (.aload_n 0, 1) := by decide +kernel
theorem dX2_perform_60 : decode cX2_perform 60 = .ok (.iload_n 2, 1) := by decide +kernel
theorem dX2_perform_61 : decode cX2_perform 61 = .ok (.iload_n 3, 1) := by decide +kernel
theorem dX2_perform_62 : decode cX2_perform 62 = .ok (.aload_n 0, 1) := by decide +kernel
theorem dX2_perform_63 : decode cX2_perform 63 = .ok (.iload_n 2, 1) := by decide +kernel
theorem dX2_perform_64 : decode cX2_perform 64 = .ok (.iload_n 3, 1) := by decide +kernel
theorem dX2_perform_65 : decode cX2_perform 65 = .ok (.invokevirtual 52, 3) := by decide +kernel
theorem dX2_perform_68 : decode cX2_perform 68 = .ok (.iconst 2, 1) := by decide +kernel
theorem dX2_perform_69 : decode cX2_perform 69 = .ok (.idiv, 1) := by decide +kernel
theorem dX2_perform_70 : decode cX2_perform 70 = .ok (.invokevirtual 89, 3) := by decide +kernel
theorem dX2_perform_73 : decode cX2_perform 73 = .ok (.goto 15, 3) := by decide +kernel
theorem dX2_perform_76 : decode cX2_perform 76 = .ok (.aload_n 0, 1) := by decide +kernel
theorem dX2_perform_77 : decode cX2_perform 77 = .ok (.iload_n 3, 1) := by decide +kernel
theorem dX2_perform_78 : decode cX2_perform 78 = .ok (.invokevirtual 92, 3) := by decide +kernel
theorem dX2_perform_81 : decode cX2_perform 81 = .ok (.goto 7, 3) := by decide +kernel
theorem dX2_perform_84 : decode cX2_perform 84 = .ok (.aload_n 0, 1) := by decide +kernel
theorem dX2_perform_85 : decode cX2_perform 85 = .ok (.invokevirtual 96, 3) := by decide +kernel
theorem dX2_perform_88 : decode cX2_perform 88 = .ok (.return_, 1) := by decide +kernel
theorem dX2_mendPale_0 : decode cX2_mendPale 0 = .ok (.aload_n 0, 1) := by decide +kernel
theorem dX2_mendPale_1 : decode cX2_mendPale 1 = .ok (.iload_n 1, 1) := by decide +kernel
theorem dX2_mendPale_2 : decode cX2_mendPale 2 = .ok (.iload_n 2, 1) := by decide +kernel
theorem dX2_mendPale_3 : decode cX2_mendPale 3 = .ok (.bipush 9, 2) := by decide +kernel
theorem dX2_mendPale_5 : decode cX2_mendPale 5 = .ok (.aload_n 0, 1) := by decide +kernel
theorem dX2_mendPale_6 : decode cX2_mendPale 6 = .ok (.iload_n 1, 1) := by decide +kernel
theorem dX2_mendPale_7 : decode cX2_mendPale 7 = .ok (.iload_n 2, 1) := by decide +kernel
theorem dX2_mendPale_8 : decode cX2_mendPale 8 = .ok (.invokevirtual 52, 3) := by decide +kernel
theorem dX2_mendPale_11 : decode cX2_mendPale 11 = .ok (.iconst 3, 1) := by decide +kernel
theorem dX2_mendPale_12 : decode cX2_mendPale 12 = .ok (.iadd, 1) := by decide +kernel
theorem dX2_mendPale_13 : decode cX2_mendPale 13 = .ok (.invokestatic 99, 3) := by decide +kernel
theorem dX2_mendPale_16 : decode cX2_mendPale 16 = .ok (.invokevirtual 89, 3) := by decide +kernel
theorem dX2_mendPale_19 : decode cX2_mendPale 19 = .ok (.return_, 1) := by decide +kernel
theorem dX2_blow_0 : decode cX2_blow 0 = .ok (.iconst 0, 1) := by decide +kernel
theorem dX2_blow_1 : decode cX2_blow 1 = .ok (.istore_n 2, 1) := by decide +kernel
theorem dX2_blow_2 : decode cX2_blow 2 = .ok (.iload_n 2, 1) := by decide +kernel
theorem dX2_blow_3 : decode cX2_blow 3 = .ok (.bipush 49, 2) := by decide +kernel
theorem dX2_blow_5 : decode cX2_blow 5 = .ok (.if_icmp .ge 36, 3) := by decide +kernel
theorem dX2_blow_8 : decode cX2_blow 8 = .ok (.aload_n 0, 1) := by decide +kernel
theorem dX2_blow_9 : decode cX2_blow 9 = .ok (.getfield 9, 3) := by decide +kernel
theorem dX2_blow_12 : decode cX2_blow 12 = .ok (.iload_n 2, 1) := by decide +kernel
theorem dX2_blow_13 : decode cX2_blow 13 = .ok (.iaload, 1) := by decide +kernel
theorem dX2_blow_14 : decode cX2_blow 14 = .ok (.ifCond .lt 21, 3) := by decide +kernel
theorem dX2_blow_17 : decode cX2_blow 17 = .ok (.aload_n 0, 1) := by decide +kernel
theorem dX2_blow_18 : decode cX2_blow 18 = .ok (.getfield 9, 3) := by decide +kernel
theorem dX2_blow_21 : decode cX2_blow 21 = .ok (.iload_n 2, 1) := by decide +kernel
theorem dX2_blow_22 : decode cX2_blow 22 = .ok (.iconst 0, 1) := by decide +kernel
theorem dX2_blow_23 : decode cX2_blow 23 = .ok (.aload_n 0, 1) := by decide +kernel
theorem dX2_blow_24 : decode cX2_blow 24 = .ok (.getfield 9, 3) := by decide +kernel
theorem dX2_blow_27 : decode cX2_blow 27 = .ok (.iload_n 2, 1) := by decide +kernel
theorem dX2_blow_28 : decode cX2_blow 28 = .ok (.iaload, 1) := by decide +kernel
theorem dX2_blow_29 : decode cX2_blow 29 = .ok (.iload_n 1, 1) := by decide +kernel
theorem dX2_blow_30 : decode cX2_blow 30 = .ok (.isub, 1) := by decide +kernel
theorem dX2_blow_31 : decode cX2_blow 31 = .ok (.invokestatic 104, 3) := by decide +kernel
theorem dX2_blow_34 : decode cX2_blow 34 = .ok (.iastore, 1) := by decide +kernel
theorem dX2_blow_35 : decode cX2_blow 35 = .ok (.iinc 2 1, 3) := by decide +kernel
theorem dX2_blow_38 : decode cX2_blow 38 = .ok (.goto (-36), 3) := by decide +kernel
theorem dX2_blow_41 : decode cX2_blow 41 = .ok (.return_, 1) := by decide +kernel
theorem dX2_passDay_0 : decode cX2_passDay 0 = .ok (.iconst 0, 1) := by decide +kernel
theorem dX2_passDay_1 : decode cX2_passDay 1 = .ok (.istore_n 1, 1) := by decide +kernel
theorem dX2_passDay_2 : decode cX2_passDay 2 = .ok (.iload_n 1, 1) := by decide +kernel
theorem dX2_passDay_3 : decode cX2_passDay 3 = .ok (.bipush 7, 2) := by decide +kernel
theorem dX2_passDay_5 : decode cX2_passDay 5 = .ok (.if_icmp .ge 75, 3) := by decide +kernel
theorem dX2_passDay_8 : decode cX2_passDay 8 = .ok (.iload_n 1, 1) := by decide +kernel
theorem dX2_passDay_9 : decode cX2_passDay 9 = .ok (.iconst 1, 1) := by decide +kernel
theorem dX2_passDay_10 : decode cX2_passDay 10 = .ok (.iadd, 1) := by decide +kernel
theorem dX2_passDay_11 : decode cX2_passDay 11 = .ok (.istore_n 2, 1) := by decide +kernel
theorem dX2_passDay_12 : decode cX2_passDay 12 = .ok (.iload_n 2, 1) := by decide +kernel
theorem dX2_passDay_13 : decode cX2_passDay 13 = .ok (.bipush 7, 2) := by decide +kernel
theorem dX2_passDay_15 : decode cX2_passDay 15 = .ok (.if_icmp .ge 59, 3) := by decide +kernel
theorem dX2_passDay_18 : decode cX2_passDay 18 = .ok (.aload_n 0, 1) := by decide +kernel
theorem dX2_passDay_19 : decode cX2_passDay 19 = .ok (.getfield 9, 3) := by decide +kernel
theorem dX2_passDay_22 : decode cX2_passDay 22 = .ok (.bipush 7, 2) := by decide +kernel
theorem dX2_passDay_24 : decode cX2_passDay 24 = .ok (.iload_n 1, 1) := by decide +kernel
theorem dX2_passDay_25 : decode cX2_passDay 25 = .ok (.imul, 1) := by decide +kernel
theorem dX2_passDay_26 : decode cX2_passDay 26 = .ok (.iload_n 2, 1) := by decide +kernel
theorem dX2_passDay_27 : decode cX2_passDay 27 = .ok (.iadd, 1) := by decide +kernel
theorem dX2_passDay_28 : decode cX2_passDay 28 = .ok (.iaload, 1) := by decide +kernel
theorem dX2_passDay_29 : decode cX2_passDay 29 = .ok (.ifCond .ne 39, 3) := by decide +kernel
theorem dX2_passDay_32 : decode cX2_passDay 32 = .ok (.aload_n 0, 1) := by decide +kernel
theorem dX2_passDay_33 : decode cX2_passDay 33 = .ok (.getfield 21, 3) := by decide +kernel
theorem dX2_passDay_36 : decode cX2_passDay 36 = .ok (.iload_n 1, 1) := by decide +kernel
theorem dX2_passDay_37 : decode cX2_passDay 37 = .ok (.iaload, 1) := by decide +kernel
theorem dX2_passDay_38 : decode cX2_passDay 38 = .ok (.aload_n 0, 1) := by decide +kernel
theorem dX2_passDay_39 : decode cX2_passDay 39 = .ok (.getfield 21, 3) := by decide +kernel
theorem dX2_passDay_42 : decode cX2_passDay 42 = .ok (.iload_n 2, 1) := by decide +kernel
theorem dX2_passDay_43 : decode cX2_passDay 43 = .ok (.iaload, 1) := by decide +kernel
theorem dX2_passDay_44 : decode cX2_passDay 44 = .ok (.invokestatic 107, 3) := by decide +kernel
theorem dX2_passDay_47 : decode cX2_passDay 47 = .ok (.istore_n 3, 1) := by decide +kernel
theorem dX2_passDay_48 : decode cX2_passDay 48 = .ok (.aload_n 0, 1) := by decide +kernel
theorem dX2_passDay_49 : decode cX2_passDay 49 = .ok (.getfield 21, 3) := by decide +kernel
theorem dX2_passDay_52 : decode cX2_passDay 52 = .ok (.iload_n 1, 1) := by decide +kernel
theorem dX2_passDay_53 : decode cX2_passDay 53 = .ok (.dup2, 1) := by decide +kernel
theorem dX2_passDay_54 : decode cX2_passDay 54 = .ok (.iaload, 1) := by decide +kernel
theorem dX2_passDay_55 : decode cX2_passDay 55 = .ok (.iload_n 3, 1) := by decide +kernel
theorem dX2_passDay_56 : decode cX2_passDay 56 = .ok (.isub, 1) := by decide +kernel
theorem dX2_passDay_57 : decode cX2_passDay 57 = .ok (.iastore, 1) := by decide +kernel
theorem dX2_passDay_58 : decode cX2_passDay 58 = .ok (.aload_n 0, 1) := by decide +kernel
theorem dX2_passDay_59 : decode cX2_passDay 59 = .ok (.getfield 21, 3) := by decide +kernel
theorem dX2_passDay_62 : decode cX2_passDay 62 = .ok (.iload_n 2, 1) := by decide +kernel
theorem dX2_passDay_63 : decode cX2_passDay 63 = .ok (.dup2, 1) := by decide +kernel
theorem dX2_passDay_64 : decode cX2_passDay 64 = .ok (.iaload, 1) := by decide +kernel
theorem dX2_passDay_65 : decode cX2_passDay 65 = .ok (.iload_n 3, 1) := by decide +kernel
theorem dX2_passDay_66 : decode cX2_passDay 66 = .ok (.iadd, 1) := by decide +kernel
theorem dX2_passDay_67 : decode cX2_passDay 67 = .ok (.iastore, 1) := by decide +kernel
theorem dX2_passDay_68 : decode cX2_passDay 68 = .ok (.iinc 2 1, 3) := by decide +kernel
theorem dX2_passDay_71 : decode cX2_passDay 71 = .ok (.goto (-59), 3) := by decide +kernel
theorem dX2_passDay_74 : decode cX2_passDay 74 = .ok (.iinc 1 1, 3) := by decide +kernel
theorem dX2_passDay_77 : decode cX2_passDay 77 = .ok (.goto (-75), 3) := by decide +kernel
theorem dX2_passDay_80 : decode cX2_passDay 80 = .ok (.aload_n 0, 1) := by decide +kernel
theorem dX2_passDay_81 : decode cX2_passDay 81 = .ok (.dup, 1) := by decide +kernel
theorem dX2_passDay_82 : decode cX2_passDay 82 = .ok (.getfield 24, 3) := by decide +kernel
theorem dX2_passDay_85 : decode cX2_passDay 85 = .ok (.iconst 1, 1) := by decide +kernel
theorem dX2_passDay_86 : decode cX2_passDay 86 = .ok (.iadd, 1) := by decide +kernel
theorem dX2_passDay_87 : decode cX2_passDay 87 = .ok (.putfield 24, 3) := by decide +kernel
theorem dX2_passDay_90 : decode cX2_passDay 90 = .ok (.return_, 1) := by decide +kernel
theorem dX2_gapMadeBy_0 : decode cX2_gapMadeBy 0 = .ok (.iload_n 1, 1) := by decide +kernel
theorem dX2_gapMadeBy_1 : decode cX2_gapMadeBy 1 = .ok (.iconst 2, 1) := by decide +kernel
theorem dX2_gapMadeBy_2 : decode cX2_gapMadeBy 2 = .ok (.if_icmp .ne 28, 3) := by decide +kernel
theorem dX2_gapMadeBy_5 : decode cX2_gapMadeBy 5 = .ok (.aload_n 0, 1) := by decide +kernel
theorem dX2_gapMadeBy_6 : decode cX2_gapMadeBy 6 = .ok (.iload_n 2, 1) := by decide +kernel
theorem dX2_gapMadeBy_7 : decode cX2_gapMadeBy 7 = .ok (.iload_n 3, 1) := by decide +kernel
theorem dX2_gapMadeBy_8 : decode cX2_gapMadeBy 8 = .ok (.invokevirtual 52, 3) := by decide +kernel
theorem dX2_gapMadeBy_11 : decode cX2_gapMadeBy 11 = .ok (.iconst 1, 1) := by decide +kernel
theorem dX2_gapMadeBy_12 : decode cX2_gapMadeBy 12 = .ok (.if_icmp .ne 18, 3) := by decide +kernel
theorem dX2_gapMadeBy_15 : decode cX2_gapMadeBy 15 = .ok (.bipush 10, 2) := by decide +kernel
theorem dX2_gapMadeBy_17 : decode cX2_gapMadeBy 17 = .ok (.iload_n 2, 1) := by decide +kernel
theorem dX2_gapMadeBy_18 : decode cX2_gapMadeBy 18 = .ok (.iload_n 3, 1) := by decide +kernel
theorem dX2_gapMadeBy_19 : decode cX2_gapMadeBy 19 = .ok (.invokestatic 99, 3) := by decide +kernel
theorem dX2_gapMadeBy_22 : decode cX2_gapMadeBy 22 = .ok (.imul, 1) := by decide +kernel
theorem dX2_gapMadeBy_23 : decode cX2_gapMadeBy 23 = .ok (.iload_n 2, 1) := by decide +kernel
theorem dX2_gapMadeBy_24 : decode cX2_gapMadeBy 24 = .ok (.iload_n 3, 1) := by decide +kernel
theorem dX2_gapMadeBy_25 : decode cX2_gapMadeBy 25 = .ok (.invokestatic 104, 3) := by decide +kernel
theorem dX2_gapMadeBy_28 : decode cX2_gapMadeBy 28 = .ok (.iadd, 1) := by decide +kernel
theorem dX2_gapMadeBy_29 : decode cX2_gapMadeBy 29 = .ok (.ireturn, 1) := by decide +kernel
theorem dX2_gapMadeBy_30 : decode cX2_gapMadeBy 30 = .ok (.iload_n 1, 1) := by decide +kernel
theorem dX2_gapMadeBy_31 : decode cX2_gapMadeBy 31 = .ok (.iconst 3, 1) := by decide +kernel
theorem dX2_gapMadeBy_32 : decode cX2_gapMadeBy 32 = .ok (.if_icmp .ne 11, 3) := by decide +kernel
theorem dX2_gapMadeBy_35 : decode cX2_gapMadeBy 35 = .ok (.aload_n 0, 1) := by decide +kernel
theorem dX2_gapMadeBy_36 : decode cX2_gapMadeBy 36 = .ok (.iload_n 3, 1) := by decide +kernel
theorem dX2_gapMadeBy_37 : decode cX2_gapMadeBy 37 = .ok (.invokevirtual 112, 3) := by decide +kernel
theorem dX2_gapMadeBy_40 : decode cX2_gapMadeBy 40 = .ok (.goto 5, 3) := by decide +kernel
theorem dX2_gapMadeBy_43 : decode cX2_gapMadeBy 43 = .ok (.bipush (-6), 2) := by decide +kernel
theorem dX2_gapMadeBy_45 : decode cX2_gapMadeBy 45 = .ok (.ireturn, 1) := by decide +kernel
theorem dX2_gapMadeByWind_0 : decode cX2_gapMadeByWind 0 = .ok (.iconst 0, 1) := by decide +kernel
theorem dX2_gapMadeByWind_1 : decode cX2_gapMadeByWind 1 = .ok (.istore_n 2, 1) := by decide +kernel
theorem dX2_gapMadeByWind_2 : decode cX2_gapMadeByWind 2 = .ok (.iload_n 2, 1) := by decide +kernel
theorem dX2_gapMadeByWind_3 : decode cX2_gapMadeByWind 3 = .ok (.bipush 7, 2) := by decide +kernel
theorem dX2_gapMadeByWind_5 : decode cX2_gapMadeByWind 5 = .ok (.if_icmp .ge 56, 3) := by decide +kernel
theorem dX2_gapMadeByWind_8 : decode cX2_gapMadeByWind 8 = .ok (.iload_n 2, 1) := by decide +kernel
theorem dX2_gapMadeByWind_9 : decode cX2_gapMadeByWind 9 = .ok (.iconst 1, 1) := by decide +kernel
theorem dX2_gapMadeByWind_10 : decode cX2_gapMadeByWind 10 = .ok (.iadd, 1) := by decide +kernel
theorem dX2_gapMadeByWind_11 : decode cX2_gapMadeByWind 11 = .ok (.istore_n 3, 1) := by decide +kernel
theorem dX2_gapMadeByWind_12 : decode cX2_gapMadeByWind 12 = .ok (.iload_n 3, 1) := by decide +kernel
theorem dX2_gapMadeByWind_13 : decode cX2_gapMadeByWind 13 = .ok (.bipush 7, 2) := by decide +kernel
theorem dX2_gapMadeByWind_15 : decode cX2_gapMadeByWind 15 = .ok (.if_icmp .ge 40, 3) := by decide +kernel
theorem dX2_gapMadeByWind_18 : decode cX2_gapMadeByWind 18 = .ok (.aload_n 0, 1) := by decide +kernel
theorem dX2_gapMadeByWind_19 : decode cX2_gapMadeByWind 19 = .ok (.getfield 9, 3) := by decide +kernel
theorem dX2_gapMadeByWind_22 : decode cX2_gapMadeByWind 22 = .ok (.bipush 7, 2) := by decide +kernel
theorem dX2_gapMadeByWind_24 : decode cX2_gapMadeByWind 24 = .ok (.iload_n 2, 1) := by decide +kernel
theorem dX2_gapMadeByWind_25 : decode cX2_gapMadeByWind 25 = .ok (.imul, 1) := by decide +kernel
theorem dX2_gapMadeByWind_26 : decode cX2_gapMadeByWind 26 = .ok (.iload_n 3, 1) := by decide +kernel
theorem dX2_gapMadeByWind_27 : decode cX2_gapMadeByWind 27 = .ok (.iadd, 1) := by decide +kernel
theorem dX2_gapMadeByWind_28 : decode cX2_gapMadeByWind 28 = .ok (.iaload, 1) := by decide +kernel
theorem dX2_gapMadeByWind_29 : decode cX2_gapMadeByWind 29 = .ok (.istore 4, 2) := by decide +kernel
theorem dX2_gapMadeByWind_31 : decode cX2_gapMadeByWind 31 = .ok (.iload 4, 2) := by decide +kernel
theorem dX2_gapMadeByWind_33 : decode cX2_gapMadeByWind 33 = .ok (.ifCond .le 16, 3) := by decide +kernel
theorem dX2_gapMadeByWind_36 : decode cX2_gapMadeByWind 36 = .ok (.iload 4, 2) := by decide +kernel
theorem dX2_gapMadeByWind_38 : decode cX2_gapMadeByWind 38 = .ok (.iload_n 1, 1) := by decide +kernel
theorem dX2_gapMadeByWind_39 : decode cX2_gapMadeByWind 39 = .ok (.if_icmp .gt 10, 3) := by decide +kernel
theorem dX2_gapMadeByWind_42 : decode cX2_gapMadeByWind 42 = .ok (.bipush 10, 2) := by decide +kernel
theorem dX2_gapMadeByWind_44 : decode cX2_gapMadeByWind 44 = .ok (.iload_n 2, 1) := by decide +kernel
theorem dX2_gapMadeByWind_45 : decode cX2_gapMadeByWind 45 = .ok (.imul, 1) := by decide +kernel
theorem dX2_gapMadeByWind_46 : decode cX2_gapMadeByWind 46 = .ok (.iload_n 3, 1) := by decide +kernel
theorem dX2_gapMadeByWind_47 : decode cX2_gapMadeByWind 47 = .ok (.iadd, 1) := by decide +kernel
theorem dX2_gapMadeByWind_48 : decode cX2_gapMadeByWind 48 = .ok (.ireturn, 1) := by decide +kernel
theorem dX2_gapMadeByWind_49 : decode cX2_gapMadeByWind 49 = .ok (.iinc 3 1, 3) := by decide +kernel
theorem dX2_gapMadeByWind_52 : decode cX2_gapMadeByWind 52 = .ok (.goto (-40), 3) := by decide +kernel
theorem dX2_gapMadeByWind_55 : decode cX2_gapMadeByWind 55 = .ok (.iinc 2 1, 3) := by decide +kernel
theorem dX2_gapMadeByWind_58 : decode cX2_gapMadeByWind 58 = .ok (.goto (-56), 3) := by decide +kernel
theorem dX2_gapMadeByWind_61 : decode cX2_gapMadeByWind 61 = .ok (.bipush (-6), 2) := by decide +kernel
theorem dX2_gapMadeByWind_63 : decode cX2_gapMadeByWind 63 = .ok (.ireturn, 1) := by decide +kernel
theorem dX2_drawActs_0 : decode cX2_drawActs 0 = .ok (.iload_n 1, 1) := by decide +kernel
theorem dX2_drawActs_1 : decode cX2_drawActs 1 = .ok (.istore_n 3, 1) := by decide +kernel
theorem dX2_drawActs_2 : decode cX2_drawActs 2 = .ok (.iconst 0, 1) := by decide +kernel
theorem dX2_drawActs_3 : decode cX2_drawActs 3 = .ok (.istore 4, 2) := by decide +kernel
theorem dX2_drawActs_5 : decode cX2_drawActs 5 = .ok (.iload 4, 2) := by decide +kernel
theorem dX2_drawActs_7 : decode cX2_drawActs 7 = .ok (.iload_n 2, 1) := by decide +kernel
theorem dX2_drawActs_8 : decode cX2_drawActs 8 = .ok (.if_icmp .ge 87, 3) := by decide +kernel
theorem dX2_drawActs_11 : decode cX2_drawActs 11 = .ok (.bipush 75, 2) := by decide +kernel
theorem dX2_drawActs_13 : decode cX2_drawActs 13 = .ok (.iload_n 3, 1) := by decide +kernel
theorem dX2_drawActs_14 : decode cX2_drawActs 14 = .ok (.imul, 1) := by decide +kernel
theorem dX2_drawActs_15 : decode cX2_drawActs 15 = .ok (.bipush 74, 2) := by decide +kernel
theorem dX2_drawActs_17 : decode cX2_drawActs 17 = .ok (.iadd, 1) := by decide +kernel
theorem dX2_drawActs_18 : decode cX2_drawActs 18 = .ok (.ldc 115, 2) := by decide +kernel
theorem dX2_drawActs_20 : decode cX2_drawActs 20 = .ok (.irem, 1) := by decide +kernel
theorem dX2_drawActs_21 : decode cX2_drawActs 21 = .ok (.istore_n 3, 1) := by decide +kernel
theorem dX2_drawActs_22 : decode cX2_drawActs 22 = .ok (.iload_n 3, 1) := by decide +kernel
theorem dX2_drawActs_23 : decode cX2_drawActs 23 = .ok (.bipush 7, 2) := by decide +kernel
theorem dX2_drawActs_25 : decode cX2_drawActs 25 = .ok (.idiv, 1) := by decide +kernel
theorem dX2_drawActs_26 : decode cX2_drawActs 26 = .ok (.bipush 8, 2) := by decide +kernel
theorem dX2_drawActs_28 : decode cX2_drawActs 28 = .ok (.irem, 1) := by decide +kernel
theorem dX2_drawActs_29 : decode cX2_drawActs 29 = .ok (.invokestatic 116, 3) := by decide +kernel
theorem dX2_drawActs_32 : decode cX2_drawActs 32 = .ok (.istore 5, 2) := by decide +kernel
theorem dX2_drawActs_34 : decode cX2_drawActs 34 = .ok (.iload_n 3, 1) := by decide +kernel
theorem dX2_drawActs_35 : decode cX2_drawActs 35 = .ok (.bipush 56, 2) := by decide +kernel
theorem dX2_drawActs_37 : decode cX2_drawActs 37 = .ok (.idiv, 1) := by decide +kernel
theorem dX2_drawActs_38 : decode cX2_drawActs 38 = .ok (.istore 6, 2) := by decide +kernel
theorem dX2_drawActs_40 : decode cX2_drawActs 40 = .ok (.iload 5, 2) := by decide +kernel
theorem dX2_drawActs_42 : decode cX2_drawActs 42 = .ok (.iconst 3, 1) := by decide +kernel
theorem dX2_drawActs_43 : decode cX2_drawActs 43 = .ok (.if_icmp .ne 12, 3) := by decide +kernel
theorem dX2_drawActs_46 : decode cX2_drawActs 46 = .ok (.iconst 1, 1) := by decide +kernel
theorem dX2_drawActs_47 : decode cX2_drawActs 47 = .ok (.iload 6, 2) := by decide +kernel
theorem dX2_drawActs_49 : decode cX2_drawActs 49 = .ok (.iconst 3, 1) := by decide +kernel
theorem dX2_drawActs_50 : decode cX2_drawActs 50 = .ok (.irem, 1) := by decide +kernel
theorem dX2_drawActs_51 : decode cX2_drawActs 51 = .ok (.iadd, 1) := by decide +kernel
theorem dX2_drawActs_52 : decode cX2_drawActs 52 = .ok (.goto 8, 3) := by decide +kernel
theorem dX2_drawActs_55 : decode cX2_drawActs 55 = .ok (.iload 6, 2) := by decide +kernel
theorem dX2_drawActs_57 : decode cX2_drawActs 57 = .ok (.bipush 7, 2) := by decide +kernel
theorem dX2_drawActs_59 : decode cX2_drawActs 59 = .ok (.irem, 1) := by decide +kernel
theorem dX2_drawActs_60 : decode cX2_drawActs 60 = .ok (.istore 7, 2) := by decide +kernel
theorem dX2_drawActs_62 : decode cX2_drawActs 62 = .ok (.aload_n 0, 1) := by decide +kernel
theorem dX2_drawActs_63 : decode cX2_drawActs 63 = .ok (.iload 5, 2) := by decide +kernel
theorem dX2_drawActs_65 : decode cX2_drawActs 65 = .ok (.iload_n 3, 1) := by decide +kernel
theorem dX2_drawActs_66 : decode cX2_drawActs 66 = .ok (.bipush 7, 2) := by decide +kernel
theorem dX2_drawActs_68 : decode cX2_drawActs 68 = .ok (.irem, 1) := by decide +kernel
theorem dX2_drawActs_69 : decode cX2_drawActs 69 = .ok (.iload 7, 2) := by decide +kernel
theorem dX2_drawActs_71 : decode cX2_drawActs 71 = .ok (.invokevirtual 119, 3) := by decide +kernel
theorem dX2_drawActs_74 : decode cX2_drawActs 74 = .ok (.ifCond .ne 15, 3) := by decide +kernel
theorem dX2_drawActs_77 : decode cX2_drawActs 77 = .ok (.aload_n 0, 1) := by decide +kernel
theorem dX2_drawActs_78 : decode cX2_drawActs 78 = .ok (.iload 5, 2) := by decide +kernel
theorem dX2_drawActs_80 : decode cX2_drawActs 80 = .ok (.iload_n 3, 1) := by decide +kernel
theorem dX2_drawActs_81 : decode cX2_drawActs 81 = .ok (.bipush 7, 2) := by decide +kernel
theorem dX2_drawActs_83 : decode cX2_drawActs 83 = .ok (.irem, 1) := by decide +kernel
theorem dX2_drawActs_84 : decode cX2_drawActs 84 = .ok (.iload 7, 2) := by decide +kernel
theorem dX2_drawActs_86 : decode cX2_drawActs 86 = .ok (.invokevirtual 123, 3) := by decide +kernel
theorem dX2_drawActs_89 : decode cX2_drawActs 89 = .ok (.iinc 4 1, 3) := by decide +kernel
theorem dX2_drawActs_92 : decode cX2_drawActs 92 = .ok (.goto (-87), 3) := by decide +kernel
theorem dX2_drawActs_95 : decode cX2_drawActs 95 = .ok (.return_, 1) := by decide +kernel
theorem dX2_drawnKind_0 : decode cX2_drawnKind 0 = .ok (.iload_n 0, 1) := by decide +kernel
theorem dX2_drawnKind_1 : decode cX2_drawnKind 1 = .ok (.iconst 2, 1) := by decide +kernel
theorem dX2_drawnKind_2 : decode cX2_drawnKind 2 = .ok (.if_icmp .gt 5, 3) := by decide +kernel
theorem dX2_drawnKind_5 : decode cX2_drawnKind 5 = .ok (.iconst 0, 1) := by decide +kernel
theorem dX2_drawnKind_6 : decode cX2_drawnKind 6 = .ok (.ireturn, 1) := by decide +kernel
theorem dX2_drawnKind_7 : decode cX2_drawnKind 7 = .ok (.iload_n 0, 1) := by decide +kernel
theorem dX2_drawnKind_8 : decode cX2_drawnKind 8 = .ok (.tableswitch 34 3 5 #[28, 30, 32], 28) := by decide +kernel
theorem dX2_drawnKind_36 : decode cX2_drawnKind 36 = .ok (.iconst 1, 1) := by decide +kernel
theorem dX2_drawnKind_37 : decode cX2_drawnKind 37 = .ok (.ireturn, 1) := by decide +kernel
theorem dX2_drawnKind_38 : decode cX2_drawnKind 38 = .ok (.iconst 2, 1) := by decide +kernel
theorem dX2_drawnKind_39 : decode cX2_drawnKind 39 = .ok (.ireturn, 1) := by decide +kernel
theorem dX2_drawnKind_40 : decode cX2_drawnKind 40 = .ok (.iconst 3, 1) := by decide +kernel
theorem dX2_drawnKind_41 : decode cX2_drawnKind 41 = .ok (.ireturn, 1) := by decide +kernel
theorem dX2_drawnKind_42 : decode cX2_drawnKind 42 = .ok (.iconst 4, 1) := by decide +kernel
theorem dX2_drawnKind_43 : decode cX2_drawnKind 43 = .ok (.ireturn, 1) := by decide +kernel
theorem dX3_init_0 : decode cX3_init 0 = .ok (.aload_n 0, 1) := by decide +kernel
theorem dX3_init_1 : decode cX3_init 1 = .ok (.invokespecial 3, 3) := by decide +kernel
theorem dX3_init_4 : decode cX3_init 4 = .ok (.aload_n 0, 1) := by decide +kernel
theorem dX3_init_5 : decode cX3_init 5 = .ok (.bipush 60, 2) := by decide +kernel
theorem dX3_init_7 : decode cX3_init 7 = .ok (.newarray .int, 2) := by decide +kernel
theorem dX3_init_9 : decode cX3_init 9 = .ok (.putfield 9, 3) := by decide +kernel
theorem dX3_init_12 : decode cX3_init 12 = .ok (.aload_n 0, 1) := by decide +kernel
theorem dX3_init_13 : decode cX3_init 13 = .ok (.iconst 0, 1) := by decide +kernel
theorem dX3_init_14 : decode cX3_init 14 = .ok (.putfield 15, 3) := by decide +kernel
theorem dX3_init_17 : decode cX3_init 17 = .ok (.return_, 1) := by decide +kernel
theorem dX3_size_0 : decode cX3_size 0 = .ok (.aload_n 0, 1) := by decide +kernel
theorem dX3_size_1 : decode cX3_size 1 = .ok (.getfield 15, 3) := by decide +kernel
theorem dX3_size_4 : decode cX3_size 4 = .ok (.ireturn, 1) := by decide +kernel
theorem dX3_clear_0 : decode cX3_clear 0 = .ok (.aload_n 0, 1) := by decide +kernel
theorem dX3_clear_1 : decode cX3_clear 1 = .ok (.iconst 0, 1) := by decide +kernel
theorem dX3_clear_2 : decode cX3_clear 2 = .ok (.putfield 15, 3) := by decide +kernel
theorem dX3_clear_5 : decode cX3_clear 5 = .ok (.return_, 1) := by decide +kernel
theorem dX3_add_0 : decode cX3_add 0 = .ok (.aload_n 0, 1) := by decide +kernel
theorem dX3_add_1 : decode cX3_add 1 = .ok (.getfield 15, 3) := by decide +kernel
theorem dX3_add_4 : decode cX3_add 4 = .ok (.bipush 60, 2) := by decide +kernel
theorem dX3_add_6 : decode cX3_add 6 = .ok (.if_icmp .lt 5, 3) := by decide +kernel
theorem dX3_add_9 : decode cX3_add 9 = .ok (.iconst 0, 1) := by decide +kernel
theorem dX3_add_10 : decode cX3_add 10 = .ok (.ireturn, 1) := by decide +kernel
theorem dX3_add_11 : decode cX3_add 11 = .ok (.aload_n 0, 1) := by decide +kernel
theorem dX3_add_12 : decode cX3_add 12 = .ok (.getfield 9, 3) := by decide +kernel
theorem dX3_add_15 : decode cX3_add 15 = .ok (.aload_n 0, 1) := by decide +kernel
theorem dX3_add_16 : decode cX3_add 16 = .ok (.getfield 15, 3) := by decide +kernel
theorem dX3_add_19 : decode cX3_add 19 = .ok (.iload_n 1, 1) := by decide +kernel
theorem dX3_add_20 : decode cX3_add 20 = .ok (.iastore, 1) := by decide +kernel
theorem dX3_add_21 : decode cX3_add 21 = .ok (.aload_n 0, 1) := by decide +kernel
theorem dX3_add_22 : decode cX3_add 22 = .ok (.dup, 1) := by decide +kernel
theorem dX3_add_23 : decode cX3_add 23 = .ok (.getfield 15, 3) := by decide +kernel
theorem dX3_add_26 : decode cX3_add 26 = .ok (.iconst 1, 1) := by decide +kernel
theorem dX3_add_27 : decode cX3_add 27 = .ok (.iadd, 1) := by decide +kernel
theorem dX3_add_28 : decode cX3_add 28 = .ok (.putfield 15, 3) := by decide +kernel
theorem dX3_add_31 : decode cX3_add 31 = .ok (.iconst 1, 1) := by decide +kernel
theorem dX3_add_32 : decode cX3_add 32 = .ok (.ireturn, 1) := by decide +kernel
theorem dX3_faultPlace_0 : decode cX3_faultPlace 0 = .ok (.iconst 0, 1) := by decide +kernel
theorem dX3_faultPlace_1 : decode cX3_faultPlace 1 = .ok (.istore_n 1, 1) := by decide +kernel
theorem dX3_faultPlace_2 : decode cX3_faultPlace 2 = .ok (.iconst 0, 1) := by decide +kernel
theorem dX3_faultPlace_3 : decode cX3_faultPlace 3 = .ok (.istore_n 2, 1) := by decide +kernel
theorem dX3_faultPlace_4 : decode cX3_faultPlace 4 = .ok (.iload_n 2, 1) := by decide +kernel
theorem dX3_faultPlace_5 : decode cX3_faultPlace 5 = .ok (.aload_n 0, 1) := by decide +kernel
theorem dX3_faultPlace_6 : decode cX3_faultPlace 6 = .ok (.getfield 15, 3) := by decide +kernel
theorem dX3_faultPlace_9 : decode cX3_faultPlace 9 = .ok (.if_icmp .ge 27, 3) := by decide +kernel
theorem dX3_faultPlace_12 : decode cX3_faultPlace 12 = .ok (.iload_n 1, 1) := by decide +kernel
theorem dX3_faultPlace_13 : decode cX3_faultPlace 13 = .ok (.aload_n 0, 1) := by decide +kernel
theorem dX3_faultPlace_14 : decode cX3_faultPlace 14 = .ok (.getfield 9, 3) := by decide +kernel
theorem dX3_faultPlace_17 : decode cX3_faultPlace 17 = .ok (.iload_n 2, 1) := by decide +kernel
theorem dX3_faultPlace_18 : decode cX3_faultPlace 18 = .ok (.iaload, 1) := by decide +kernel
theorem dX3_faultPlace_19 : decode cX3_faultPlace 19 = .ok (.invokestatic 19, 3) := by decide +kernel
theorem dX3_faultPlace_22 : decode cX3_faultPlace 22 = .ok (.istore_n 1, 1) := by decide +kernel
theorem dX3_faultPlace_23 : decode cX3_faultPlace 23 = .ok (.iload_n 1, 1) := by decide +kernel
theorem dX3_faultPlace_24 : decode cX3_faultPlace 24 = .ok (.iconst 4, 1) := by decide +kernel
theorem dX3_faultPlace_25 : decode cX3_faultPlace 25 = .ok (.if_icmp .ne 5, 3) := by decide +kernel
theorem dX3_faultPlace_28 : decode cX3_faultPlace 28 = .ok (.iload_n 2, 1) := by decide +kernel
theorem dX3_faultPlace_29 : decode cX3_faultPlace 29 = .ok (.ireturn, 1) := by decide +kernel
theorem dX3_faultPlace_30 : decode cX3_faultPlace 30 = .ok (.iinc 2 1, 3) := by decide +kernel
theorem dX3_faultPlace_33 : decode cX3_faultPlace 33 = .ok (.goto (-29), 3) := by decide +kernel
theorem dX3_faultPlace_36 : decode cX3_faultPlace 36 = .ok (.iload_n 1, 1) := by decide +kernel
theorem dX3_faultPlace_37 : decode cX3_faultPlace 37 = .ok (.ifCond .ne 8, 3) := by decide +kernel
theorem dX3_faultPlace_40 : decode cX3_faultPlace 40 = .ok (.bipush (-6), 2) := by decide +kernel
theorem dX3_faultPlace_42 : decode cX3_faultPlace 42 = .ok (.goto 7, 3) := by decide +kernel
theorem dX3_faultPlace_45 : decode cX3_faultPlace 45 = .ok (.aload_n 0, 1) := by decide +kernel
theorem dX3_faultPlace_46 : decode cX3_faultPlace 46 = .ok (.getfield 15, 3) := by decide +kernel
theorem dX3_faultPlace_49 : decode cX3_faultPlace 49 = .ok (.ireturn, 1) := by decide +kernel
theorem dX3_nextAfter_0 : decode cX3_nextAfter 0 = .ok (.iload_n 0, 1) := by decide +kernel
theorem dX3_nextAfter_1 : decode cX3_nextAfter 1 = .ok (.tableswitch 78 0 2 #[27, 32, 62], 27) := by decide +kernel
theorem dX3_nextAfter_28 : decode cX3_nextAfter 28 = .ok (.iload_n 1, 1) := by decide +kernel
theorem dX3_nextAfter_29 : decode cX3_nextAfter 29 = .ok (.invokestatic 23, 3) := by decide +kernel
theorem dX3_nextAfter_32 : decode cX3_nextAfter 32 = .ok (.ireturn, 1) := by decide +kernel
theorem dX3_nextAfter_33 : decode cX3_nextAfter 33 = .ok (.iload_n 1, 1) := by decide +kernel
theorem dX3_nextAfter_34 : decode cX3_nextAfter 34 = .ok (.bipush 33, 2) := by decide +kernel
theorem dX3_nextAfter_36 : decode cX3_nextAfter 36 = .ok (.if_icmp .ne 5, 3) := by decide +kernel
theorem dX3_nextAfter_39 : decode cX3_nextAfter 39 = .ok (.iconst 2, 1) := by decide +kernel
theorem dX3_nextAfter_40 : decode cX3_nextAfter 40 = .ok (.ireturn, 1) := by decide +kernel
theorem dX3_nextAfter_41 : decode cX3_nextAfter 41 = .ok (.iload_n 1, 1) := by decide +kernel
theorem dX3_nextAfter_42 : decode cX3_nextAfter 42 = .ok (.bipush 42, 2) := by decide +kernel
theorem dX3_nextAfter_44 : decode cX3_nextAfter 44 = .ok (.if_icmp .eq 13, 3) := by decide +kernel
theorem dX3_nextAfter_47 : decode cX3_nextAfter 47 = .ok (.iload_n 1, 1) := by decide +kernel
theorem dX3_nextAfter_48 : decode cX3_nextAfter 48 = .ok (.bipush 97, 2) := by decide +kernel
theorem dX3_nextAfter_50 : decode cX3_nextAfter 50 = .ok (.isub, 1) := by decide +kernel
theorem dX3_nextAfter_51 : decode cX3_nextAfter 51 = .ok (.invokestatic 27, 3) := by decide +kernel
theorem dX3_nextAfter_54 : decode cX3_nextAfter 54 = .ok (.ifCond .eq 7, 3) := by decide +kernel
theorem dX3_nextAfter_57 : decode cX3_nextAfter 57 = .ok (.iconst 0, 1) := by decide +kernel
theorem dX3_nextAfter_58 : decode cX3_nextAfter 58 = .ok (.goto 4, 3) := by decide +kernel
theorem dX3_nextAfter_61 : decode cX3_nextAfter 61 = .ok (.iconst 4, 1) := by decide +kernel
theorem dX3_nextAfter_62 : decode cX3_nextAfter 62 = .ok (.ireturn, 1) := by decide +kernel
theorem dX3_nextAfter_63 : decode cX3_nextAfter 63 = .ok (.iload_n 1, 1) := by decide +kernel
theorem dX3_nextAfter_64 : decode cX3_nextAfter 64 = .ok (.bipush 97, 2) := by decide +kernel
theorem dX3_nextAfter_66 : decode cX3_nextAfter 66 = .ok (.isub, 1) := by decide +kernel
theorem dX3_nextAfter_67 : decode cX3_nextAfter 67 = .ok (.invokestatic 27, 3) := by decide +kernel
theorem dX3_nextAfter_70 : decode cX3_nextAfter 70 = .ok (.ifCond .eq 7, 3) := by decide +kernel
theorem dX3_nextAfter_73 : decode cX3_nextAfter 73 = .ok (.iconst 0, 1) := by decide +kernel
theorem dX3_nextAfter_74 : decode cX3_nextAfter 74 = .ok (.goto 4, 3) := by decide +kernel
theorem dX3_nextAfter_77 : decode cX3_nextAfter 77 = .ok (.iconst 4, 1) := by decide +kernel
theorem dX3_nextAfter_78 : decode cX3_nextAfter 78 = .ok (.ireturn, 1) := by decide +kernel
theorem dX3_nextAfter_79 : decode cX3_nextAfter 79 = .ok (.iload_n 1, 1) := by decide +kernel
theorem dX3_nextAfter_80 : decode cX3_nextAfter 80 = .ok (.bipush 49, 2) := by decide +kernel
theorem dX3_nextAfter_82 : decode cX3_nextAfter 82 = .ok (.if_icmp .lt 13, 3) := by decide +kernel
theorem dX3_nextAfter_85 : decode cX3_nextAfter 85 = .ok (.iload_n 1, 1) := by decide +kernel
theorem dX3_nextAfter_86 : decode cX3_nextAfter 86 = .ok (.bipush 57, 2) := by decide +kernel
theorem dX3_nextAfter_88 : decode cX3_nextAfter 88 = .ok (.if_icmp .gt 7, 3) := by decide +kernel
theorem dX3_nextAfter_91 : decode cX3_nextAfter 91 = .ok (.iconst 0, 1) := by decide +kernel
theorem dX3_nextAfter_92 : decode cX3_nextAfter 92 = .ok (.goto 4, 3) := by decide +kernel
theorem dX3_nextAfter_95 : decode cX3_nextAfter 95 = .ok (.iconst 4, 1) := by decide +kernel
theorem dX3_nextAfter_96 : decode cX3_nextAfter 96 = .ok (.ireturn, 1) := by decide +kernel
theorem dX3_nextAfterStart_0 : decode cX3_nextAfterStart 0 = .ok (.iload_n 0, 1) := by decide +kernel
theorem dX3_nextAfterStart_1 : decode cX3_nextAfterStart 1 = .ok (.bipush 46, 2) := by decide +kernel
theorem dX3_nextAfterStart_3 : decode cX3_nextAfterStart 3 = .ok (.if_icmp .ne 5, 3) := by decide +kernel
theorem dX3_nextAfterStart_6 : decode cX3_nextAfterStart 6 = .ok (.iconst 0, 1) := by decide +kernel
theorem dX3_nextAfterStart_7 : decode cX3_nextAfterStart 7 = .ok (.ireturn, 1) := by decide +kernel
theorem dX3_nextAfterStart_8 : decode cX3_nextAfterStart 8 = .ok (.iload_n 0, 1) := by decide +kernel
theorem dX3_nextAfterStart_9 : decode cX3_nextAfterStart 9 = .ok (.bipush 119, 2) := by decide +kernel
theorem dX3_nextAfterStart_11 : decode cX3_nextAfterStart 11 = .ok (.if_icmp .ne 5, 3) := by decide +kernel
theorem dX3_nextAfterStart_14 : decode cX3_nextAfterStart 14 = .ok (.iconst 3, 1) := by decide +kernel
theorem dX3_nextAfterStart_15 : decode cX3_nextAfterStart 15 = .ok (.ireturn, 1) := by decide +kernel
theorem dX3_nextAfterStart_16 : decode cX3_nextAfterStart 16 = .ok (.iload_n 0, 1) := by decide +kernel
theorem dX3_nextAfterStart_17 : decode cX3_nextAfterStart 17 = .ok (.bipush 65, 2) := by decide +kernel
theorem dX3_nextAfterStart_19 : decode cX3_nextAfterStart 19 = .ok (.isub, 1) := by decide +kernel
theorem dX3_nextAfterStart_20 : decode cX3_nextAfterStart 20 = .ok (.invokestatic 27, 3) := by decide +kernel
theorem dX3_nextAfterStart_23 : decode cX3_nextAfterStart 23 = .ok (.ifCond .eq 7, 3) := by decide +kernel
theorem dX3_nextAfterStart_26 : decode cX3_nextAfterStart 26 = .ok (.iconst 1, 1) := by decide +kernel
theorem dX3_nextAfterStart_27 : decode cX3_nextAfterStart 27 = .ok (.goto 4, 3) := by decide +kernel
theorem dX3_nextAfterStart_30 : decode cX3_nextAfterStart 30 = .ok (.iconst 4, 1) := by decide +kernel
theorem dX3_nextAfterStart_31 : decode cX3_nextAfterStart 31 = .ok (.ireturn, 1) := by decide +kernel
theorem dX3_signAt_0 : decode cX3_signAt 0 = .ok (.iload_n 1, 1) := by decide +kernel
theorem dX3_signAt_1 : decode cX3_signAt 1 = .ok (.ifCond .lt 20, 3) := by decide +kernel
theorem dX3_signAt_4 : decode cX3_signAt 4 = .ok (.iload_n 1, 1) := by decide +kernel
theorem dX3_signAt_5 : decode cX3_signAt 5 = .ok (.aload_n 0, 1) := by decide +kernel
theorem dX3_signAt_6 : decode cX3_signAt 6 = .ok (.getfield 15, 3) := by decide +kernel
theorem dX3_signAt_9 : decode cX3_signAt 9 = .ok (.if_icmp .ge 12, 3) := by decide +kernel
theorem dX3_signAt_12 : decode cX3_signAt 12 = .ok (.aload_n 0, 1) := by decide +kernel
theorem dX3_signAt_13 : decode cX3_signAt 13 = .ok (.getfield 9, 3) := by decide +kernel
theorem dX3_signAt_16 : decode cX3_signAt 16 = .ok (.iload_n 1, 1) := by decide +kernel
theorem dX3_signAt_17 : decode cX3_signAt 17 = .ok (.iaload, 1) := by decide +kernel
theorem dX3_signAt_18 : decode cX3_signAt 18 = .ok (.goto 4, 3) := by decide +kernel
theorem dX3_signAt_21 : decode cX3_signAt 21 = .ok (.iconst 0, 1) := by decide +kernel
theorem dX3_signAt_22 : decode cX3_signAt 22 = .ok (.ireturn, 1) := by decide +kernel
theorem dX3_kindAt_0 : decode cX3_kindAt 0 = .ok (.aload_n 0, 1) := by decide +kernel
theorem dX3_kindAt_1 : decode cX3_kindAt 1 = .ok (.iload_n 1, 1) := by decide +kernel
theorem dX3_kindAt_2 : decode cX3_kindAt 2 = .ok (.invokevirtual 31, 3) := by decide +kernel
theorem dX3_kindAt_5 : decode cX3_kindAt 5 = .ok (.lookupswitch 31 #[(46, 27), (119, 29)], 27) := by decide +kernel
theorem dX3_kindAt_32 : decode cX3_kindAt 32 = .ok (.iconst 4, 1) := by decide +kernel
theorem dX3_kindAt_33 : decode cX3_kindAt 33 = .ok (.ireturn, 1) := by decide +kernel
theorem dX3_kindAt_34 : decode cX3_kindAt 34 = .ok (.iconst 3, 1) := by decide +kernel
theorem dX3_kindAt_35 : decode cX3_kindAt 35 = .ok (.ireturn, 1) := by decide +kernel
theorem dX3_kindAt_36 : decode cX3_kindAt 36 = .ok (.aload_n 0, 1) := by decide +kernel
theorem dX3_kindAt_37 : decode cX3_kindAt 37 = .ok (.iload_n 1, 1) := by decide +kernel
theorem dX3_kindAt_38 : decode cX3_kindAt 38 = .ok (.iconst 1, 1) := by decide +kernel
theorem dX3_kindAt_39 : decode cX3_kindAt 39 = .ok (.iadd, 1) := by decide +kernel
theorem dX3_kindAt_40 : decode cX3_kindAt 40 = .ok (.invokevirtual 31, 3) := by decide +kernel
theorem dX3_kindAt_43 : decode cX3_kindAt 43 = .ok (.invokestatic 34, 3) := by decide +kernel
theorem dX3_kindAt_46 : decode cX3_kindAt 46 = .ok (.ireturn, 1) := by decide +kernel
theorem dX3_deedKind_0 : decode cX3_deedKind 0 = .ok (.iload_n 0, 1) := by decide +kernel
theorem dX3_deedKind_1 : decode cX3_deedKind 1 = .ok (.lookupswitch 31 #[(33, 29), (42, 27)], 27) := by decide +kernel
theorem dX3_deedKind_28 : decode cX3_deedKind 28 = .ok (.iconst 1, 1) := by decide +kernel
theorem dX3_deedKind_29 : decode cX3_deedKind 29 = .ok (.ireturn, 1) := by decide +kernel
theorem dX3_deedKind_30 : decode cX3_deedKind 30 = .ok (.iconst 2, 1) := by decide +kernel
theorem dX3_deedKind_31 : decode cX3_deedKind 31 = .ok (.ireturn, 1) := by decide +kernel
theorem dX3_deedKind_32 : decode cX3_deedKind 32 = .ok (.iconst 0, 1) := by decide +kernel
theorem dX3_deedKind_33 : decode cX3_deedKind 33 = .ok (.ireturn, 1) := by decide +kernel
theorem dX3_manAt_0 : decode cX3_manAt 0 = .ok (.aload_n 0, 1) := by decide +kernel
theorem dX3_manAt_1 : decode cX3_manAt 1 = .ok (.iload_n 1, 1) := by decide +kernel
theorem dX3_manAt_2 : decode cX3_manAt 2 = .ok (.invokevirtual 31, 3) := by decide +kernel
theorem dX3_manAt_5 : decode cX3_manAt 5 = .ok (.bipush 65, 2) := by decide +kernel
theorem dX3_manAt_7 : decode cX3_manAt 7 = .ok (.isub, 1) := by decide +kernel
theorem dX3_manAt_8 : decode cX3_manAt 8 = .ok (.ireturn, 1) := by decide +kernel
theorem dX3_numberAt_0 : decode cX3_numberAt 0 = .ok (.iload_n 2, 1) := by decide +kernel
theorem dX3_numberAt_1 : decode cX3_numberAt 1 = .ok (.tableswitch 64 0 3 #[31, 64, 42, 53], 31) := by decide +kernel
theorem dX3_numberAt_32 : decode cX3_numberAt 32 = .ok (.aload_n 0, 1) := by decide +kernel
theorem dX3_numberAt_33 : decode cX3_numberAt 33 = .ok (.iload_n 1, 1) := by decide +kernel
theorem dX3_numberAt_34 : decode cX3_numberAt 34 = .ok (.iconst 1, 1) := by decide +kernel
theorem dX3_numberAt_35 : decode cX3_numberAt 35 = .ok (.iadd, 1) := by decide +kernel
theorem dX3_numberAt_36 : decode cX3_numberAt 36 = .ok (.invokevirtual 31, 3) := by decide +kernel
theorem dX3_numberAt_39 : decode cX3_numberAt 39 = .ok (.bipush 97, 2) := by decide +kernel
theorem dX3_numberAt_41 : decode cX3_numberAt 41 = .ok (.isub, 1) := by decide +kernel
theorem dX3_numberAt_42 : decode cX3_numberAt 42 = .ok (.ireturn, 1) := by decide +kernel
theorem dX3_numberAt_43 : decode cX3_numberAt 43 = .ok (.aload_n 0, 1) := by decide +kernel
theorem dX3_numberAt_44 : decode cX3_numberAt 44 = .ok (.iload_n 1, 1) := by decide +kernel
theorem dX3_numberAt_45 : decode cX3_numberAt 45 = .ok (.iconst 2, 1) := by decide +kernel
theorem dX3_numberAt_46 : decode cX3_numberAt 46 = .ok (.iadd, 1) := by decide +kernel
theorem dX3_numberAt_47 : decode cX3_numberAt 47 = .ok (.invokevirtual 31, 3) := by decide +kernel
theorem dX3_numberAt_50 : decode cX3_numberAt 50 = .ok (.bipush 97, 2) := by decide +kernel
theorem dX3_numberAt_52 : decode cX3_numberAt 52 = .ok (.isub, 1) := by decide +kernel
theorem dX3_numberAt_53 : decode cX3_numberAt 53 = .ok (.ireturn, 1) := by decide +kernel
theorem dX3_numberAt_54 : decode cX3_numberAt 54 = .ok (.aload_n 0, 1) := by decide +kernel
theorem dX3_numberAt_55 : decode cX3_numberAt 55 = .ok (.iload_n 1, 1) := by decide +kernel
theorem dX3_numberAt_56 : decode cX3_numberAt 56 = .ok (.iconst 1, 1) := by decide +kernel
theorem dX3_numberAt_57 : decode cX3_numberAt 57 = .ok (.iadd, 1) := by decide +kernel
theorem dX3_numberAt_58 : decode cX3_numberAt 58 = .ok (.invokevirtual 31, 3) := by decide +kernel
theorem dX3_numberAt_61 : decode cX3_numberAt 61 = .ok (.bipush 48, 2) := by decide +kernel
theorem dX3_numberAt_63 : decode cX3_numberAt 63 = .ok (.isub, 1) := by decide +kernel
theorem dX3_numberAt_64 : decode cX3_numberAt 64 = .ok (.ireturn, 1) := by decide +kernel
theorem dX3_numberAt_65 : decode cX3_numberAt 65 = .ok (.iconst 0, 1) := by decide +kernel
theorem dX3_numberAt_66 : decode cX3_numberAt 66 = .ok (.ireturn, 1) := by decide +kernel
theorem dX3_lengthOf_0 : decode cX3_lengthOf 0 = .ok (.iload_n 0, 1) := by decide +kernel
theorem dX3_lengthOf_1 : decode cX3_lengthOf 1 = .ok (.lookupswitch 31 #[(2, 29), (4, 27)], 27) := by decide +kernel
theorem dX3_lengthOf_28 : decode cX3_lengthOf 28 = .ok (.iconst 1, 1) := by decide +kernel
theorem dX3_lengthOf_29 : decode cX3_lengthOf 29 = .ok (.ireturn, 1) := by decide +kernel
theorem dX3_lengthOf_30 : decode cX3_lengthOf 30 = .ok (.iconst 3, 1) := by decide +kernel
theorem dX3_lengthOf_31 : decode cX3_lengthOf 31 = .ok (.ireturn, 1) := by decide +kernel
theorem dX3_lengthOf_32 : decode cX3_lengthOf 32 = .ok (.iconst 2, 1) := by decide +kernel
theorem dX3_lengthOf_33 : decode cX3_lengthOf 33 = .ok (.ireturn, 1) := by decide +kernel
theorem dX4_init_0 : decode cX4_init 0 = .ok (.aload_n 0, 1) := by decide +kernel
theorem dX4_init_1 : decode cX4_init 1 = .ok (.invokespecial 3, 3) := by decide +kernel
theorem dX4_init_4 : decode cX4_init 4 = .ok (.aload_n 0, 1) := by decide +kernel
theorem dX4_init_5 : decode cX4_init 5 = .ok (.bipush 61, 2) := by decide +kernel
theorem dX4_init_7 : decode cX4_init 7 = .ok (.newarray .int, 2) := by decide +kernel
theorem dX4_init_9 : decode cX4_init 9 = .ok (.putfield 9, 3) := by decide +kernel
theorem dX4_init_12 : decode cX4_init 12 = .ok (.iconst 0, 1) := by decide +kernel
theorem dX4_init_13 : decode cX4_init 13 = .ok (.istore_n 1, 1) := by decide +kernel
theorem dX4_init_14 : decode cX4_init 14 = .ok (.iload_n 1, 1) := by decide +kernel
theorem dX4_init_15 : decode cX4_init 15 = .ok (.bipush 60, 2) := by decide +kernel
theorem dX4_init_17 : decode cX4_init 17 = .ok (.if_icmp .gt 56, 3) := by decide +kernel
theorem dX4_init_20 : decode cX4_init 20 = .ok (.iconst 0, 1) := by decide +kernel
theorem dX4_init_21 : decode cX4_init 21 = .ok (.istore_n 2, 1) := by decide +kernel
theorem dX4_init_22 : decode cX4_init 22 = .ok (.iconst 1, 1) := by decide +kernel
theorem dX4_init_23 : decode cX4_init 23 = .ok (.istore_n 3, 1) := by decide +kernel
theorem dX4_init_24 : decode cX4_init 24 = .ok (.iconst 2, 1) := by decide +kernel
theorem dX4_init_25 : decode cX4_init 25 = .ok (.iload_n 3, 1) := by decide +kernel
theorem dX4_init_26 : decode cX4_init 26 = .ok (.imul, 1) := by decide +kernel
theorem dX4_init_27 : decode cX4_init 27 = .ok (.iload_n 1, 1) := by decide +kernel
theorem dX4_init_28 : decode cX4_init 28 = .ok (.if_icmp .ge 29, 3) := by decide +kernel
theorem dX4_init_31 : decode cX4_init 31 = .ok (.iload_n 2, 1) := by decide +kernel
theorem dX4_init_32 : decode cX4_init 32 = .ok (.iconst 1, 1) := by decide +kernel
theorem dX4_init_33 : decode cX4_init 33 = .ok (.aload_n 0, 1) := by decide +kernel
theorem dX4_init_34 : decode cX4_init 34 = .ok (.getfield 9, 3) := by decide +kernel
theorem dX4_init_37 : decode cX4_init 37 = .ok (.iload_n 3, 1) := by decide +kernel
theorem dX4_init_38 : decode cX4_init 38 = .ok (.iaload, 1) := by decide +kernel
theorem dX4_init_39 : decode cX4_init 39 = .ok (.aload_n 0, 1) := by decide +kernel
theorem dX4_init_40 : decode cX4_init 40 = .ok (.getfield 9, 3) := by decide +kernel
theorem dX4_init_43 : decode cX4_init 43 = .ok (.iload_n 1, 1) := by decide +kernel
theorem dX4_init_44 : decode cX4_init 44 = .ok (.iload_n 3, 1) := by decide +kernel
theorem dX4_init_45 : decode cX4_init 45 = .ok (.isub, 1) := by decide +kernel
theorem dX4_init_46 : decode cX4_init 46 = .ok (.iaload, 1) := by decide +kernel
theorem dX4_init_47 : decode cX4_init 47 = .ok (.ixor, 1) := by decide +kernel
theorem dX4_init_48 : decode cX4_init 48 = .ok (.ishl, 1) := by decide +kernel
theorem dX4_init_49 : decode cX4_init 49 = .ok (.ior, 1) := by decide +kernel
theorem dX4_init_50 : decode cX4_init 50 = .ok (.istore_n 2, 1) := by decide +kernel
theorem dX4_init_51 : decode cX4_init 51 = .ok (.iinc 3 1, 3) := by decide +kernel
theorem dX4_init_54 : decode cX4_init 54 = .ok (.goto (-30), 3) := by decide +kernel
theorem dX4_init_57 : decode cX4_init 57 = .ok (.aload_n 0, 1) := by decide +kernel
theorem dX4_init_58 : decode cX4_init 58 = .ok (.getfield 9, 3) := by decide +kernel
theorem dX4_init_61 : decode cX4_init 61 = .ok (.iload_n 1, 1) := by decide +kernel
theorem dX4_init_62 : decode cX4_init 62 = .ok (.iload_n 2, 1) := by decide +kernel
theorem dX4_init_63 : decode cX4_init 63 = .ok (.invokestatic 15, 3) := by decide +kernel
theorem dX4_init_66 : decode cX4_init 66 = .ok (.iastore, 1) := by decide +kernel
theorem dX4_init_67 : decode cX4_init 67 = .ok (.iinc 1 1, 3) := by decide +kernel
theorem dX4_init_70 : decode cX4_init 70 = .ok (.goto (-56), 3) := by decide +kernel
theorem dX4_init_73 : decode cX4_init 73 = .ok (.return_, 1) := by decide +kernel
theorem dX4_leastMissing_0 : decode cX4_leastMissing 0 = .ok (.iconst 0, 1) := by decide +kernel
theorem dX4_leastMissing_1 : decode cX4_leastMissing 1 = .ok (.istore_n 1, 1) := by decide +kernel
theorem dX4_leastMissing_2 : decode cX4_leastMissing 2 = .ok (.iload_n 1, 1) := by decide +kernel
theorem dX4_leastMissing_3 : decode cX4_leastMissing 3 = .ok (.bipush 32, 2) := by decide +kernel
theorem dX4_leastMissing_5 : decode cX4_leastMissing 5 = .ok (.if_icmp .ge 18, 3) := by decide +kernel
theorem dX4_leastMissing_8 : decode cX4_leastMissing 8 = .ok (.iload_n 0, 1) := by decide +kernel
theorem dX4_leastMissing_9 : decode cX4_leastMissing 9 = .ok (.iload_n 1, 1) := by decide +kernel
theorem dX4_leastMissing_10 : decode cX4_leastMissing 10 = .ok (.ishr, 1) := by decide +kernel
theorem dX4_leastMissing_11 : decode cX4_leastMissing 11 = .ok (.iconst 1, 1) := by decide +kernel
theorem dX4_leastMissing_12 : decode cX4_leastMissing 12 = .ok (.iand, 1) := by decide +kernel
theorem dX4_leastMissing_13 : decode cX4_leastMissing 13 = .ok (.iconst 1, 1) := by decide +kernel
theorem dX4_leastMissing_14 : decode cX4_leastMissing 14 = .ok (.if_icmp .ne 9, 3) := by decide +kernel
theorem dX4_leastMissing_17 : decode cX4_leastMissing 17 = .ok (.iinc 1 1, 3) := by decide +kernel
theorem dX4_leastMissing_20 : decode cX4_leastMissing 20 = .ok (.goto (-18), 3) := by decide +kernel
theorem dX4_leastMissing_23 : decode cX4_leastMissing 23 = .ok (.iload_n 1, 1) := by decide +kernel
theorem dX4_leastMissing_24 : decode cX4_leastMissing 24 = .ok (.ireturn, 1) := by decide +kernel
theorem dX4_winningLess_0 : decode cX4_winningLess 0 = .ok (.iload_n 1, 1) := by decide +kernel
theorem dX4_winningLess_1 : decode cX4_winningLess 1 = .ok (.bipush 60, 2) := by decide +kernel
theorem dX4_winningLess_3 : decode cX4_winningLess 3 = .ok (.if_icmp .le 6, 3) := by decide +kernel
theorem dX4_winningLess_6 : decode cX4_winningLess 6 = .ok (.bipush (-6), 2) := by decide +kernel
theorem dX4_winningLess_8 : decode cX4_winningLess 8 = .ok (.ireturn, 1) := by decide +kernel
theorem dX4_winningLess_9 : decode cX4_winningLess 9 = .ok (.iconst 1, 1) := by decide +kernel
theorem dX4_winningLess_10 : decode cX4_winningLess 10 = .ok (.istore_n 2, 1) := by decide +kernel
theorem dX4_winningLess_11 : decode cX4_winningLess 11 = .ok (.iconst 2, 1) := by decide +kernel
theorem dX4_winningLess_12 : decode cX4_winningLess 12 = .ok (.iload_n 2, 1) := by decide +kernel
theorem dX4_winningLess_13 : decode cX4_winningLess 13 = .ok (.imul, 1) := by decide +kernel
theorem dX4_winningLess_14 : decode cX4_winningLess 14 = .ok (.iload_n 1, 1) := by decide +kernel
theorem dX4_winningLess_15 : decode cX4_winningLess 15 = .ok (.if_icmp .ge 28, 3) := by decide +kernel
theorem dX4_winningLess_18 : decode cX4_winningLess 18 = .ok (.aload_n 0, 1) := by decide +kernel
theorem dX4_winningLess_19 : decode cX4_winningLess 19 = .ok (.getfield 9, 3) := by decide +kernel
theorem dX4_winningLess_22 : decode cX4_winningLess 22 = .ok (.iload_n 2, 1) := by decide +kernel
theorem dX4_winningLess_23 : decode cX4_winningLess 23 = .ok (.iaload, 1) := by decide +kernel
theorem dX4_winningLess_24 : decode cX4_winningLess 24 = .ok (.aload_n 0, 1) := by decide +kernel
theorem dX4_winningLess_25 : decode cX4_winningLess 25 = .ok (.getfield 9, 3) := by decide +kernel
theorem dX4_winningLess_28 : decode cX4_winningLess 28 = .ok (.iload_n 1, 1) := by decide +kernel
theorem dX4_winningLess_29 : decode cX4_winningLess 29 = .ok (.iload_n 2, 1) := by decide +kernel
theorem dX4_winningLess_30 : decode cX4_winningLess 30 = .ok (.isub, 1) := by decide +kernel
theorem dX4_winningLess_31 : decode cX4_winningLess 31 = .ok (.iaload, 1) := by decide +kernel
theorem dX4_winningLess_32 : decode cX4_winningLess 32 = .ok (.if_icmp .ne 5, 3) := by decide +kernel
theorem dX4_winningLess_35 : decode cX4_winningLess 35 = .ok (.iload_n 2, 1) := by decide +kernel
theorem dX4_winningLess_36 : decode cX4_winningLess 36 = .ok (.ireturn, 1) := by decide +kernel
theorem dX4_winningLess_37 : decode cX4_winningLess 37 = .ok (.iinc 2 1, 3) := by decide +kernel
theorem dX4_winningLess_40 : decode cX4_winningLess 40 = .ok (.goto (-29), 3) := by decide +kernel
theorem dX4_winningLess_43 : decode cX4_winningLess 43 = .ok (.bipush (-6), 2) := by decide +kernel
theorem dX4_winningLess_45 : decode cX4_winningLess 45 = .ok (.ireturn, 1) := by decide +kernel
theorem dX5_init_0 : decode cX5_init 0 = .ok (.aload_n 0, 1) := by decide +kernel
theorem dX5_init_1 : decode cX5_init 1 = .ok (.invokespecial 3, 3) := by decide +kernel
theorem dX5_init_4 : decode cX5_init 4 = .ok (.aload_n 0, 1) := by decide +kernel
theorem dX5_init_5 : decode cX5_init 5 = .ok (.bipush 49, 2) := by decide +kernel
theorem dX5_init_7 : decode cX5_init 7 = .ok (.newarray .int, 2) := by decide +kernel
theorem dX5_init_9 : decode cX5_init 9 = .ok (.putfield 9, 3) := by decide +kernel
theorem dX5_init_12 : decode cX5_init 12 = .ok (.aload_n 0, 1) := by decide +kernel
theorem dX5_init_13 : decode cX5_init 13 = .ok (.sipush 896, 3) := by decide +kernel
theorem dX5_init_16 : decode cX5_init 16 = .ok (.newarray .int, 2) := by decide +kernel
theorem dX5_init_18 : decode cX5_init 18 = .ok (.putfield 15, 3) := by decide +kernel
theorem dX5_init_21 : decode cX5_init 21 = .ok (.return_, 1) := by decide +kernel
theorem dX5_measure_0 : decode cX5_measure 0 = .ok (.iconst 0, 1) := by decide +kernel
theorem dX5_measure_1 : decode cX5_measure 1 = .ok (.istore_n 2, 1) := by decide +kernel
theorem dX5_measure_2 : decode cX5_measure 2 = .ok (.iload_n 2, 1) := by decide +kernel
theorem dX5_measure_3 : decode cX5_measure 3 = .ok (.bipush 7, 2) := by decide +kernel
theorem dX5_measure_5 : decode cX5_measure 5 = .ok (.if_icmp .ge 67, 3) := by decide +kernel
theorem dX5_measure_8 : decode cX5_measure 8 = .ok (.iconst 0, 1) := by decide +kernel
theorem dX5_measure_9 : decode cX5_measure 9 = .ok (.istore_n 3, 1) := by decide +kernel
theorem dX5_measure_10 : decode cX5_measure 10 = .ok (.iload_n 3, 1) := by decide +kernel
theorem dX5_measure_11 : decode cX5_measure 11 = .ok (.bipush 7, 2) := by decide +kernel
theorem dX5_measure_13 : decode cX5_measure 13 = .ok (.if_icmp .ge 41, 3) := by decide +kernel
theorem dX5_measure_16 : decode cX5_measure 16 = .ok (.aload_n 1, 1) := by decide +kernel
theorem dX5_measure_17 : decode cX5_measure 17 = .ok (.iload_n 2, 1) := by decide +kernel
theorem dX5_measure_18 : decode cX5_measure 18 = .ok (.iload_n 3, 1) := by decide +kernel
theorem dX5_measure_19 : decode cX5_measure 19 = .ok (.invokevirtual 18, 3) := by decide +kernel
theorem dX5_measure_22 : decode cX5_measure 22 = .ok (.istore 4, 2) := by decide +kernel
theorem dX5_measure_24 : decode cX5_measure 24 = .ok (.aload_n 0, 1) := by decide +kernel
theorem dX5_measure_25 : decode cX5_measure 25 = .ok (.getfield 9, 3) := by decide +kernel
theorem dX5_measure_28 : decode cX5_measure 28 = .ok (.bipush 7, 2) := by decide +kernel
theorem dX5_measure_30 : decode cX5_measure 30 = .ok (.iload_n 2, 1) := by decide +kernel
theorem dX5_measure_31 : decode cX5_measure 31 = .ok (.imul, 1) := by decide +kernel
theorem dX5_measure_32 : decode cX5_measure 32 = .ok (.iload_n 3, 1) := by decide +kernel
theorem dX5_measure_33 : decode cX5_measure 33 = .ok (.iadd, 1) := by decide +kernel
theorem dX5_measure_34 : decode cX5_measure 34 = .ok (.iload 4, 2) := by decide +kernel
theorem dX5_measure_36 : decode cX5_measure 36 = .ok (.ifCond .le 8, 3) := by decide +kernel
theorem dX5_measure_39 : decode cX5_measure 39 = .ok (.iload 4, 2) := by decide +kernel
theorem dX5_measure_41 : decode cX5_measure 41 = .ok (.goto 6, 3) := by decide +kernel
theorem dX5_measure_44 : decode cX5_measure 44 = .ok (.sipush 1000, 3) := by decide +kernel
theorem dX5_measure_47 : decode cX5_measure 47 = .ok (.iastore, 1) := by decide +kernel
theorem dX5_measure_48 : decode cX5_measure 48 = .ok (.iinc 3 1, 3) := by decide +kernel
theorem dX5_measure_51 : decode cX5_measure 51 = .ok (.goto (-41), 3) := by decide +kernel
theorem dX5_measure_54 : decode cX5_measure 54 = .ok (.aload_n 0, 1) := by decide +kernel
theorem dX5_measure_55 : decode cX5_measure 55 = .ok (.getfield 9, 3) := by decide +kernel
theorem dX5_measure_58 : decode cX5_measure 58 = .ok (.bipush 7, 2) := by decide +kernel
theorem dX5_measure_60 : decode cX5_measure 60 = .ok (.iload_n 2, 1) := by decide +kernel
theorem dX5_measure_61 : decode cX5_measure 61 = .ok (.imul, 1) := by decide +kernel
theorem dX5_measure_62 : decode cX5_measure 62 = .ok (.iload_n 2, 1) := by decide +kernel
theorem dX5_measure_63 : decode cX5_measure 63 = .ok (.iadd, 1) := by decide +kernel
theorem dX5_measure_64 : decode cX5_measure 64 = .ok (.iconst 0, 1) := by decide +kernel
theorem dX5_measure_65 : decode cX5_measure 65 = .ok (.iastore, 1) := by decide +kernel
theorem dX5_measure_66 : decode cX5_measure 66 = .ok (.iinc 2 1, 3) := by decide +kernel
theorem dX5_measure_69 : decode cX5_measure 69 = .ok (.goto (-67), 3) := by decide +kernel
theorem dX5_measure_72 : decode cX5_measure 72 = .ok (.iconst 0, 1) := by decide +kernel
theorem dX5_measure_73 : decode cX5_measure 73 = .ok (.istore_n 2, 1) := by decide +kernel
theorem dX5_measure_74 : decode cX5_measure 74 = .ok (.iload_n 2, 1) := by decide +kernel
theorem dX5_measure_75 : decode cX5_measure 75 = .ok (.bipush 7, 2) := by decide +kernel
theorem dX5_measure_77 : decode cX5_measure 77 = .ok (.if_icmp .ge 14, 3) := by decide +kernel
theorem dX5_measure_80 : decode cX5_measure 80 = .ok (.aload_n 0, 1) := by decide +kernel
theorem dX5_measure_81 : decode cX5_measure 81 = .ok (.iload_n 2, 1) := by decide +kernel
theorem dX5_measure_82 : decode cX5_measure 82 = .ok (.invokevirtual 24, 3) := by decide +kernel
theorem dX5_measure_85 : decode cX5_measure 85 = .ok (.iinc 2 1, 3) := by decide +kernel
theorem dX5_measure_88 : decode cX5_measure 88 = .ok (.goto (-14), 3) := by decide +kernel
theorem dX5_measure_91 : decode cX5_measure 91 = .ok (.return_, 1) := by decide +kernel
theorem dX5_shortenBy_0 : decode cX5_shortenBy 0 = .ok (.iconst 0, 1) := by decide +kernel
theorem dX5_shortenBy_1 : decode cX5_shortenBy 1 = .ok (.istore_n 2, 1) := by decide +kernel
theorem dX5_shortenBy_2 : decode cX5_shortenBy 2 = .ok (.iload_n 2, 1) := by decide +kernel
theorem dX5_shortenBy_3 : decode cX5_shortenBy 3 = .ok (.bipush 7, 2) := by decide +kernel
theorem dX5_shortenBy_5 : decode cX5_shortenBy 5 = .ok (.if_icmp .ge 77, 3) := by decide +kernel
theorem dX5_shortenBy_8 : decode cX5_shortenBy 8 = .ok (.iconst 0, 1) := by decide +kernel
theorem dX5_shortenBy_9 : decode cX5_shortenBy 9 = .ok (.istore_n 3, 1) := by decide +kernel
theorem dX5_shortenBy_10 : decode cX5_shortenBy 10 = .ok (.iload_n 3, 1) := by decide +kernel
theorem dX5_shortenBy_11 : decode cX5_shortenBy 11 = .ok (.bipush 7, 2) := by decide +kernel
theorem dX5_shortenBy_13 : decode cX5_shortenBy 13 = .ok (.if_icmp .ge 63, 3) := by decide +kernel
theorem dX5_shortenBy_16 : decode cX5_shortenBy 16 = .ok (.aload_n 0, 1) := by decide +kernel
theorem dX5_shortenBy_17 : decode cX5_shortenBy 17 = .ok (.getfield 9, 3) := by decide +kernel
theorem dX5_shortenBy_20 : decode cX5_shortenBy 20 = .ok (.bipush 7, 2) := by decide +kernel
theorem dX5_shortenBy_22 : decode cX5_shortenBy 22 = .ok (.iload_n 2, 1) := by decide +kernel
theorem dX5_shortenBy_23 : decode cX5_shortenBy 23 = .ok (.imul, 1) := by decide +kernel
theorem dX5_shortenBy_24 : decode cX5_shortenBy 24 = .ok (.iload_n 1, 1) := by decide +kernel
theorem dX5_shortenBy_25 : decode cX5_shortenBy 25 = .ok (.iadd, 1) := by decide +kernel
theorem dX5_shortenBy_26 : decode cX5_shortenBy 26 = .ok (.iaload, 1) := by decide +kernel
theorem dX5_shortenBy_27 : decode cX5_shortenBy 27 = .ok (.aload_n 0, 1) := by decide +kernel
theorem dX5_shortenBy_28 : decode cX5_shortenBy 28 = .ok (.getfield 9, 3) := by decide +kernel
theorem dX5_shortenBy_31 : decode cX5_shortenBy 31 = .ok (.bipush 7, 2) := by decide +kernel
theorem dX5_shortenBy_33 : decode cX5_shortenBy 33 = .ok (.iload_n 1, 1) := by decide +kernel
theorem dX5_shortenBy_34 : decode cX5_shortenBy 34 = .ok (.imul, 1) := by decide +kernel
theorem dX5_shortenBy_35 : decode cX5_shortenBy 35 = .ok (.iload_n 3, 1) := by decide +kernel
theorem dX5_shortenBy_36 : decode cX5_shortenBy 36 = .ok (.iadd, 1) := by decide +kernel
theorem dX5_shortenBy_37 : decode cX5_shortenBy 37 = .ok (.iaload, 1) := by decide +kernel
theorem dX5_shortenBy_38 : decode cX5_shortenBy 38 = .ok (.iadd, 1) := by decide +kernel
theorem dX5_shortenBy_39 : decode cX5_shortenBy 39 = .ok (.istore 4, 2) := by decide +kernel
theorem dX5_shortenBy_41 : decode cX5_shortenBy 41 = .ok (.iload 4, 2) := by decide +kernel
theorem dX5_shortenBy_43 : decode cX5_shortenBy 43 = .ok (.aload_n 0, 1) := by decide +kernel
theorem dX5_shortenBy_44 : decode cX5_shortenBy 44 = .ok (.getfield 9, 3) := by decide +kernel
theorem dX5_shortenBy_47 : decode cX5_shortenBy 47 = .ok (.bipush 7, 2) := by decide +kernel
theorem dX5_shortenBy_49 : decode cX5_shortenBy 49 = .ok (.iload_n 2, 1) := by decide +kernel
theorem dX5_shortenBy_50 : decode cX5_shortenBy 50 = .ok (.imul, 1) := by decide +kernel
theorem dX5_shortenBy_51 : decode cX5_shortenBy 51 = .ok (.iload_n 3, 1) := by decide +kernel
theorem dX5_shortenBy_52 : decode cX5_shortenBy 52 = .ok (.iadd, 1) := by decide +kernel
theorem dX5_shortenBy_53 : decode cX5_shortenBy 53 = .ok (.iaload, 1) := by decide +kernel
theorem dX5_shortenBy_54 : decode cX5_shortenBy 54 = .ok (.if_icmp .ge 16, 3) := by decide +kernel
theorem dX5_shortenBy_57 : decode cX5_shortenBy 57 = .ok (.aload_n 0, 1) := by decide +kernel
theorem dX5_shortenBy_58 : decode cX5_shortenBy 58 = .ok (.getfield 9, 3) := by decide +kernel
theorem dX5_shortenBy_61 : decode cX5_shortenBy 61 = .ok (.bipush 7, 2) := by decide +kernel
theorem dX5_shortenBy_63 : decode cX5_shortenBy 63 = .ok (.iload_n 2, 1) := by decide +kernel
theorem dX5_shortenBy_64 : decode cX5_shortenBy 64 = .ok (.imul, 1) := by decide +kernel
theorem dX5_shortenBy_65 : decode cX5_shortenBy 65 = .ok (.iload_n 3, 1) := by decide +kernel
theorem dX5_shortenBy_66 : decode cX5_shortenBy 66 = .ok (.iadd, 1) := by decide +kernel
theorem dX5_shortenBy_67 : decode cX5_shortenBy 67 = .ok (.iload 4, 2) := by decide +kernel
theorem dX5_shortenBy_69 : decode cX5_shortenBy 69 = .ok (.iastore, 1) := by decide +kernel
theorem dX5_shortenBy_70 : decode cX5_shortenBy 70 = .ok (.iinc 3 1, 3) := by decide +kernel
theorem dX5_shortenBy_73 : decode cX5_shortenBy 73 = .ok (.goto (-63), 3) := by decide +kernel
theorem dX5_shortenBy_76 : decode cX5_shortenBy 76 = .ok (.iinc 2 1, 3) := by decide +kernel
theorem dX5_shortenBy_79 : decode cX5_shortenBy 79 = .ok (.goto (-77), 3) := by decide +kernel
theorem dX5_shortenBy_82 : decode cX5_shortenBy 82 = .ok (.return_, 1) := by decide +kernel
theorem dX5_between_0 : decode cX5_between 0 = .ok (.iload_n 1, 1) := by decide +kernel
theorem dX5_between_1 : decode cX5_between 1 = .ok (.invokestatic 28, 3) := by decide +kernel
theorem dX5_between_4 : decode cX5_between 4 = .ok (.ifCond .eq 27, 3) := by decide +kernel
theorem dX5_between_7 : decode cX5_between 7 = .ok (.iload_n 2, 1) := by decide +kernel
theorem dX5_between_8 : decode cX5_between 8 = .ok (.invokestatic 28, 3) := by decide +kernel
theorem dX5_between_11 : decode cX5_between 11 = .ok (.ifCond .eq 20, 3) := by decide +kernel
theorem dX5_between_14 : decode cX5_between 14 = .ok (.aload_n 0, 1) := by decide +kernel
theorem dX5_between_15 : decode cX5_between 15 = .ok (.getfield 9, 3) := by decide +kernel
theorem dX5_between_18 : decode cX5_between 18 = .ok (.bipush 7, 2) := by decide +kernel
theorem dX5_between_20 : decode cX5_between 20 = .ok (.iload_n 1, 1) := by decide +kernel
theorem dX5_between_21 : decode cX5_between 21 = .ok (.imul, 1) := by decide +kernel
theorem dX5_between_22 : decode cX5_between 22 = .ok (.iload_n 2, 1) := by decide +kernel
theorem dX5_between_23 : decode cX5_between 23 = .ok (.iadd, 1) := by decide +kernel
theorem dX5_between_24 : decode cX5_between 24 = .ok (.iaload, 1) := by decide +kernel
theorem dX5_between_25 : decode cX5_between 25 = .ok (.invokestatic 32, 3) := by decide +kernel
theorem dX5_between_28 : decode cX5_between 28 = .ok (.goto 5, 3) := by decide +kernel
theorem dX5_between_31 : decode cX5_between 31 = .ok (.bipush (-6), 2) := by decide +kernel
theorem dX5_between_33 : decode cX5_between 33 = .ok (.ireturn, 1) := by decide +kernel
theorem dX5_milesOrNone_0 : decode cX5_milesOrNone 0 = .ok (.iload_n 0, 1) := by decide +kernel
theorem dX5_milesOrNone_1 : decode cX5_milesOrNone 1 = .ok (.sipush 1000, 3) := by decide +kernel
theorem dX5_milesOrNone_4 : decode cX5_milesOrNone 4 = .ok (.if_icmp .ge 7, 3) := by decide +kernel
theorem dX5_milesOrNone_7 : decode cX5_milesOrNone 7 = .ok (.iload_n 0, 1) := by decide +kernel
theorem dX5_milesOrNone_8 : decode cX5_milesOrNone 8 = .ok (.goto 5, 3) := by decide +kernel
theorem dX5_milesOrNone_11 : decode cX5_milesOrNone 11 = .ok (.bipush (-6), 2) := by decide +kernel
theorem dX5_milesOrNone_13 : decode cX5_milesOrNone 13 = .ok (.ireturn, 1) := by decide +kernel
theorem dX5_tour_0 : decode cX5_tour 0 = .ok (.iload_n 1, 1) := by decide +kernel
theorem dX5_tour_1 : decode cX5_tour 1 = .ok (.invokestatic 28, 3) := by decide +kernel
theorem dX5_tour_4 : decode cX5_tour 4 = .ok (.ifCond .ne 6, 3) := by decide +kernel
theorem dX5_tour_7 : decode cX5_tour 7 = .ok (.bipush (-6), 2) := by decide +kernel
theorem dX5_tour_9 : decode cX5_tour 9 = .ok (.ireturn, 1) := by decide +kernel
theorem dX5_tour_10 : decode cX5_tour 10 = .ok (.aload_n 0, 1) := by decide +kernel
theorem dX5_tour_11 : decode cX5_tour 11 = .ok (.getfield 15, 3) := by decide +kernel
theorem dX5_tour_14 : decode cX5_tour 14 = .ok (.sipush 1000, 3) := by decide +kernel
theorem dX5_tour_17 : decode cX5_tour 17 = .ok (.invokestatic 36, 3) := by decide +kernel
theorem dX5_tour_20 : decode cX5_tour 20 = .ok (.aload_n 0, 1) := by decide +kernel
theorem dX5_tour_21 : decode cX5_tour 21 = .ok (.getfield 15, 3) := by decide +kernel
theorem dX5_tour_24 : decode cX5_tour 24 = .ok (.bipush 7, 2) := by decide +kernel
theorem dX5_tour_26 : decode cX5_tour 26 = .ok (.iconst 1, 1) := by decide +kernel
theorem dX5_tour_27 : decode cX5_tour 27 = .ok (.iload_n 1, 1) := by decide +kernel
theorem dX5_tour_28 : decode cX5_tour 28 = .ok (.ishl, 1) := by decide +kernel
theorem dX5_tour_29 : decode cX5_tour 29 = .ok (.imul, 1) := by decide +kernel
theorem dX5_tour_30 : decode cX5_tour 30 = .ok (.iload_n 1, 1) := by decide +kernel
theorem dX5_tour_31 : decode cX5_tour 31 = .ok (.iadd, 1) := by decide +kernel
theorem dX5_tour_32 : decode cX5_tour 32 = .ok (.iconst 0, 1) := by decide +kernel
theorem dX5_tour_33 : decode cX5_tour 33 = .ok (.iastore, 1) := by decide +kernel
theorem dX5_tour_34 : decode cX5_tour 34 = .ok (.iconst 0, 1) := by decide +kernel
theorem dX5_tour_35 : decode cX5_tour 35 = .ok (.istore_n 3, 1) := by decide +kernel
theorem dX5_tour_36 : decode cX5_tour 36 = .ok (.iload_n 3, 1) := by decide +kernel
theorem dX5_tour_37 : decode cX5_tour 37 = .ok (.sipush 128, 3) := by decide +kernel
theorem dX5_tour_40 : decode cX5_tour 40 = .ok (.if_icmp .ge 55, 3) := by decide +kernel
theorem dX5_tour_43 : decode cX5_tour 43 = .ok (.iconst 0, 1) := by decide +kernel
theorem dX5_tour_44 : decode cX5_tour 44 = .ok (.istore 4, 2) := by decide +kernel
theorem dX5_tour_46 : decode cX5_tour 46 = .ok (.iload 4, 2) := by decide +kernel
theorem dX5_tour_48 : decode cX5_tour 48 = .ok (.bipush 7, 2) := by decide +kernel
theorem dX5_tour_50 : decode cX5_tour 50 = .ok (.if_icmp .ge 39, 3) := by decide +kernel
theorem dX5_tour_53 : decode cX5_tour 53 = .ok (.aload_n 0, 1) := by decide +kernel
theorem dX5_tour_54 : decode cX5_tour 54 = .ok (.getfield 15, 3) := by decide +kernel
theorem dX5_tour_57 : decode cX5_tour 57 = .ok (.bipush 7, 2) := by decide +kernel
theorem dX5_tour_59 : decode cX5_tour 59 = .ok (.iload_n 3, 1) := by decide +kernel
theorem dX5_tour_60 : decode cX5_tour 60 = .ok (.imul, 1) := by decide +kernel
theorem dX5_tour_61 : decode cX5_tour 61 = .ok (.iload 4, 2) := by decide +kernel
theorem dX5_tour_63 : decode cX5_tour 63 = .ok (.iadd, 1) := by decide +kernel
theorem dX5_tour_64 : decode cX5_tour 64 = .ok (.iaload, 1) := by decide +kernel
theorem dX5_tour_65 : decode cX5_tour 65 = .ok (.sipush 1000, 3) := by decide +kernel
theorem dX5_tour_68 : decode cX5_tour 68 = .ok (.if_icmp .ge 15, 3) := by decide +kernel
theorem dX5_tour_71 : decode cX5_tour 71 = .ok (.aload_n 0, 1) := by decide +kernel
theorem dX5_tour_72 : decode cX5_tour 72 = .ok (.iload_n 3, 1) := by decide +kernel
theorem dX5_tour_73 : decode cX5_tour 73 = .ok (.iload 4, 2) := by decide +kernel
theorem dX5_tour_75 : decode cX5_tour 75 = .ok (.iload_n 2, 1) := by decide +kernel
theorem dX5_tour_76 : decode cX5_tour 76 = .ok (.iload_n 3, 1) := by decide +kernel
theorem dX5_tour_77 : decode cX5_tour 77 = .ok (.iconst (-1), 1) := by decide +kernel
theorem dX5_tour_78 : decode cX5_tour 78 = .ok (.ixor, 1) := by decide +kernel
theorem dX5_tour_79 : decode cX5_tour 79 = .ok (.iand, 1) := by decide +kernel
theorem dX5_tour_80 : decode cX5_tour 80 = .ok (.invokevirtual 42, 3) := by decide +kernel
theorem dX5_tour_83 : decode cX5_tour 83 = .ok (.iinc 4 1, 3) := by decide +kernel
theorem dX5_tour_86 : decode cX5_tour 86 = .ok (.goto (-40), 3) := by decide +kernel
theorem dX5_tour_89 : decode cX5_tour 89 = .ok (.iinc 3 1, 3) := by decide +kernel
theorem dX5_tour_92 : decode cX5_tour 92 = .ok (.goto (-56), 3) := by decide +kernel
theorem dX5_tour_95 : decode cX5_tour 95 = .ok (.aload_n 0, 1) := by decide +kernel
theorem dX5_tour_96 : decode cX5_tour 96 = .ok (.iload_n 1, 1) := by decide +kernel
theorem dX5_tour_97 : decode cX5_tour 97 = .ok (.iload_n 2, 1) := by decide +kernel
theorem dX5_tour_98 : decode cX5_tour 98 = .ok (.iconst 1, 1) := by decide +kernel
theorem dX5_tour_99 : decode cX5_tour 99 = .ok (.iload_n 1, 1) := by decide +kernel
theorem dX5_tour_100 : decode cX5_tour 100 = .ok (.ishl, 1) := by decide +kernel
theorem dX5_tour_101 : decode cX5_tour 101 = .ok (.ior, 1) := by decide +kernel
theorem dX5_tour_102 : decode cX5_tour 102 = .ok (.bipush 127, 2) := by decide +kernel
theorem dX5_tour_104 : decode cX5_tour 104 = .ok (.iand, 1) := by decide +kernel
theorem dX5_tour_105 : decode cX5_tour 105 = .ok (.invokevirtual 46, 3) := by decide +kernel
theorem dX5_tour_108 : decode cX5_tour 108 = .ok (.invokestatic 32, 3) := by decide +kernel
theorem dX5_tour_111 : decode cX5_tour 111 = .ok (.ireturn, 1) := by decide +kernel
theorem dX5_lengthen_0 : decode cX5_lengthen 0 = .ok (.iconst 0, 1) := by decide +kernel
theorem dX5_lengthen_1 : decode cX5_lengthen 1 = .ok (.istore 4, 2) := by decide +kernel
theorem dX5_lengthen_3 : decode cX5_lengthen 3 = .ok (.iload 4, 2) := by decide +kernel
theorem dX5_lengthen_5 : decode cX5_lengthen 5 = .ok (.bipush 7, 2) := by decide +kernel
theorem dX5_lengthen_7 : decode cX5_lengthen 7 = .ok (.if_icmp .ge 80, 3) := by decide +kernel
theorem dX5_lengthen_10 : decode cX5_lengthen 10 = .ok (.iload_n 3, 1) := by decide +kernel
theorem dX5_lengthen_11 : decode cX5_lengthen 11 = .ok (.iload 4, 2) := by decide +kernel
theorem dX5_lengthen_13 : decode cX5_lengthen 13 = .ok (.ishr, 1) := by decide +kernel
theorem dX5_lengthen_14 : decode cX5_lengthen 14 = .ok (.iconst 1, 1) := by decide +kernel
theorem dX5_lengthen_15 : decode cX5_lengthen 15 = .ok (.iand, 1) := by decide +kernel
theorem dX5_lengthen_16 : decode cX5_lengthen 16 = .ok (.iconst 1, 1) := by decide +kernel
theorem dX5_lengthen_17 : decode cX5_lengthen 17 = .ok (.if_icmp .ne 64, 3) := by decide +kernel
theorem dX5_lengthen_20 : decode cX5_lengthen 20 = .ok (.aload_n 0, 1) := by decide +kernel
theorem dX5_lengthen_21 : decode cX5_lengthen 21 = .ok (.getfield 15, 3) := by decide +kernel
theorem dX5_lengthen_24 : decode cX5_lengthen 24 = .ok (.bipush 7, 2) := by decide +kernel
theorem dX5_lengthen_26 : decode cX5_lengthen 26 = .ok (.iload_n 1, 1) := by decide +kernel
theorem dX5_lengthen_27 : decode cX5_lengthen 27 = .ok (.imul, 1) := by decide +kernel
theorem dX5_lengthen_28 : decode cX5_lengthen 28 = .ok (.iload_n 2, 1) := by decide +kernel
theorem dX5_lengthen_29 : decode cX5_lengthen 29 = .ok (.iadd, 1) := by decide +kernel
theorem dX5_lengthen_30 : decode cX5_lengthen 30 = .ok (.iaload, 1) := by decide +kernel
theorem dX5_lengthen_31 : decode cX5_lengthen 31 = .ok (.aload_n 0, 1) := by decide +kernel
theorem dX5_lengthen_32 : decode cX5_lengthen 32 = .ok (.getfield 9, 3) := by decide +kernel
theorem dX5_lengthen_35 : decode cX5_lengthen 35 = .ok (.bipush 7, 2) := by decide +kernel
theorem dX5_lengthen_37 : decode cX5_lengthen 37 = .ok (.iload_n 2, 1) := by decide +kernel
theorem dX5_lengthen_38 : decode cX5_lengthen 38 = .ok (.imul, 1) := by decide +kernel
theorem dX5_lengthen_39 : decode cX5_lengthen 39 = .ok (.iload 4, 2) := by decide +kernel
theorem dX5_lengthen_41 : decode cX5_lengthen 41 = .ok (.iadd, 1) := by decide +kernel
theorem dX5_lengthen_42 : decode cX5_lengthen 42 = .ok (.iaload, 1) := by decide +kernel
theorem dX5_lengthen_43 : decode cX5_lengthen 43 = .ok (.iadd, 1) := by decide +kernel
theorem dX5_lengthen_44 : decode cX5_lengthen 44 = .ok (.istore 5, 2) := by decide +kernel
theorem dX5_lengthen_46 : decode cX5_lengthen 46 = .ok (.bipush 7, 2) := by decide +kernel
theorem dX5_lengthen_48 : decode cX5_lengthen 48 = .ok (.iload_n 1, 1) := by decide +kernel
theorem dX5_lengthen_49 : decode cX5_lengthen 49 = .ok (.iconst 1, 1) := by decide +kernel
theorem dX5_lengthen_50 : decode cX5_lengthen 50 = .ok (.iload 4, 2) := by decide +kernel
theorem dX5_lengthen_52 : decode cX5_lengthen 52 = .ok (.ishl, 1) := by decide +kernel
theorem dX5_lengthen_53 : decode cX5_lengthen 53 = .ok (.ior, 1) := by decide +kernel
theorem dX5_lengthen_54 : decode cX5_lengthen 54 = .ok (.imul, 1) := by decide +kernel
theorem dX5_lengthen_55 : decode cX5_lengthen 55 = .ok (.iload 4, 2) := by decide +kernel
theorem dX5_lengthen_57 : decode cX5_lengthen 57 = .ok (.iadd, 1) := by decide +kernel
theorem dX5_lengthen_58 : decode cX5_lengthen 58 = .ok (.istore 6, 2) := by decide +kernel
theorem dX5_lengthen_60 : decode cX5_lengthen 60 = .ok (.iload 5, 2) := by decide +kernel
theorem dX5_lengthen_62 : decode cX5_lengthen 62 = .ok (.aload_n 0, 1) := by decide +kernel
theorem dX5_lengthen_63 : decode cX5_lengthen 63 = .ok (.getfield 15, 3) := by decide +kernel
theorem dX5_lengthen_66 : decode cX5_lengthen 66 = .ok (.iload 6, 2) := by decide +kernel
theorem dX5_lengthen_68 : decode cX5_lengthen 68 = .ok (.iaload, 1) := by decide +kernel
theorem dX5_lengthen_69 : decode cX5_lengthen 69 = .ok (.if_icmp .ge 12, 3) := by decide +kernel
theorem dX5_lengthen_72 : decode cX5_lengthen 72 = .ok (.aload_n 0, 1) := by decide +kernel
theorem dX5_lengthen_73 : decode cX5_lengthen 73 = .ok (.getfield 15, 3) := by decide +kernel
theorem dX5_lengthen_76 : decode cX5_lengthen 76 = .ok (.iload 6, 2) := by decide +kernel
theorem dX5_lengthen_78 : decode cX5_lengthen 78 = .ok (.iload 5, 2) := by decide +kernel
theorem dX5_lengthen_80 : decode cX5_lengthen 80 = .ok (.iastore, 1) := by decide +kernel
theorem dX5_lengthen_81 : decode cX5_lengthen 81 = .ok (.iinc 4 1, 3) := by decide +kernel
theorem dX5_lengthen_84 : decode cX5_lengthen 84 = .ok (.goto (-81), 3) := by decide +kernel
theorem dX5_lengthen_87 : decode cX5_lengthen 87 = .ok (.return_, 1) := by decide +kernel
theorem dX5_leastHome_0 : decode cX5_leastHome 0 = .ok (.sipush 1000, 3) := by decide +kernel
theorem dX5_leastHome_3 : decode cX5_leastHome 3 = .ok (.istore_n 3, 1) := by decide +kernel
theorem dX5_leastHome_4 : decode cX5_leastHome 4 = .ok (.iconst 0, 1) := by decide +kernel
theorem dX5_leastHome_5 : decode cX5_leastHome 5 = .ok (.istore 4, 2) := by decide +kernel
theorem dX5_leastHome_7 : decode cX5_leastHome 7 = .ok (.iload 4, 2) := by decide +kernel
theorem dX5_leastHome_9 : decode cX5_leastHome 9 = .ok (.bipush 7, 2) := by decide +kernel
theorem dX5_leastHome_11 : decode cX5_leastHome 11 = .ok (.if_icmp .ge 39, 3) := by decide +kernel
theorem dX5_leastHome_14 : decode cX5_leastHome 14 = .ok (.iload_n 3, 1) := by decide +kernel
theorem dX5_leastHome_15 : decode cX5_leastHome 15 = .ok (.aload_n 0, 1) := by decide +kernel
theorem dX5_leastHome_16 : decode cX5_leastHome 16 = .ok (.getfield 15, 3) := by decide +kernel
theorem dX5_leastHome_19 : decode cX5_leastHome 19 = .ok (.bipush 7, 2) := by decide +kernel
theorem dX5_leastHome_21 : decode cX5_leastHome 21 = .ok (.iload_n 2, 1) := by decide +kernel
theorem dX5_leastHome_22 : decode cX5_leastHome 22 = .ok (.imul, 1) := by decide +kernel
theorem dX5_leastHome_23 : decode cX5_leastHome 23 = .ok (.iload 4, 2) := by decide +kernel
theorem dX5_leastHome_25 : decode cX5_leastHome 25 = .ok (.iadd, 1) := by decide +kernel
theorem dX5_leastHome_26 : decode cX5_leastHome 26 = .ok (.iaload, 1) := by decide +kernel
theorem dX5_leastHome_27 : decode cX5_leastHome 27 = .ok (.aload_n 0, 1) := by decide +kernel
theorem dX5_leastHome_28 : decode cX5_leastHome 28 = .ok (.getfield 9, 3) := by decide +kernel
theorem dX5_leastHome_31 : decode cX5_leastHome 31 = .ok (.bipush 7, 2) := by decide +kernel
theorem dX5_leastHome_33 : decode cX5_leastHome 33 = .ok (.iload 4, 2) := by decide +kernel
theorem dX5_leastHome_35 : decode cX5_leastHome 35 = .ok (.imul, 1) := by decide +kernel
theorem dX5_leastHome_36 : decode cX5_leastHome 36 = .ok (.iload_n 1, 1) := by decide +kernel
theorem dX5_leastHome_37 : decode cX5_leastHome 37 = .ok (.iadd, 1) := by decide +kernel
theorem dX5_leastHome_38 : decode cX5_leastHome 38 = .ok (.iaload, 1) := by decide +kernel
theorem dX5_leastHome_39 : decode cX5_leastHome 39 = .ok (.iadd, 1) := by decide +kernel
theorem dX5_leastHome_40 : decode cX5_leastHome 40 = .ok (.invokestatic 49, 3) := by decide +kernel
theorem dX5_leastHome_43 : decode cX5_leastHome 43 = .ok (.istore_n 3, 1) := by decide +kernel
theorem dX5_leastHome_44 : decode cX5_leastHome 44 = .ok (.iinc 4 1, 3) := by decide +kernel
theorem dX5_leastHome_47 : decode cX5_leastHome 47 = .ok (.goto (-40), 3) := by decide +kernel
theorem dX5_leastHome_50 : decode cX5_leastHome 50 = .ok (.iload_n 3, 1) := by decide +kernel
theorem dX5_leastHome_51 : decode cX5_leastHome 51 = .ok (.ireturn, 1) := by decide +kernel
theorem dX6_init_0 : decode cX6_init 0 = .ok (.aload_n 0, 1) := by decide +kernel
theorem dX6_init_1 : decode cX6_init 1 = .ok (.invokespecial 3, 3) := by decide +kernel
theorem dX6_init_4 : decode cX6_init 4 = .ok (.aload_n 0, 1) := by decide +kernel
theorem dX6_init_5 : decode cX6_init 5 = .ok (.sipush 410, 3) := by decide +kernel
theorem dX6_init_8 : decode cX6_init 8 = .ok (.newarray .int, 2) := by decide +kernel
