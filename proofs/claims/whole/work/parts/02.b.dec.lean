theorem dX6_init_10 : decode cX6_init 10 = .ok (.putfield 9, 3) := by decide +kernel
theorem dX6_init_13 : decode cX6_init 13 = .ok (.aload_n 0, 1) := by decide +kernel
theorem dX6_init_14 : decode cX6_init 14 = .ok (.bipush 101, 2) := by decide +kernel
theorem dX6_init_16 : decode cX6_init 16 = .ok (.newarray .int, 2) := by decide +kernel
theorem dX6_init_18 : decode cX6_init 18 = .ok (.putfield 15, 3) := by decide +kernel
theorem dX6_init_21 : decode cX6_init 21 = .ok (.aload_n 0, 1) := by decide +kernel
theorem dX6_init_22 : decode cX6_init 22 = .ok (.iconst 0, 1) := by decide +kernel
theorem dX6_init_23 : decode cX6_init 23 = .ok (.putfield 18, 3) := by decide +kernel
theorem dX6_init_26 : decode cX6_init 26 = .ok (.aload_n 0, 1) := by decide +kernel
theorem dX6_init_27 : decode cX6_init 27 = .ok (.iconst 0, 1) := by decide +kernel
theorem dX6_init_28 : decode cX6_init 28 = .ok (.putfield 22, 3) := by decide +kernel
theorem dX6_init_31 : decode cX6_init 31 = .ok (.aload_n 0, 1) := by decide +kernel
theorem dX6_init_32 : decode cX6_init 32 = .ok (.invokevirtual 25, 3) := by decide +kernel
theorem dX6_init_35 : decode cX6_init 35 = .ok (.return_, 1) := by decide +kernel
theorem dX6_copyFrom_0 : decode cX6_copyFrom 0 = .ok (.aload_n 1, 1) := by decide +kernel
theorem dX6_copyFrom_1 : decode cX6_copyFrom 1 = .ok (.getfield 9, 3) := by decide +kernel
theorem dX6_copyFrom_4 : decode cX6_copyFrom 4 = .ok (.iconst 0, 1) := by decide +kernel
theorem dX6_copyFrom_5 : decode cX6_copyFrom 5 = .ok (.aload_n 0, 1) := by decide +kernel
theorem dX6_copyFrom_6 : decode cX6_copyFrom 6 = .ok (.getfield 9, 3) := by decide +kernel
theorem dX6_copyFrom_9 : decode cX6_copyFrom 9 = .ok (.iconst 0, 1) := by decide +kernel
theorem dX6_copyFrom_10 : decode cX6_copyFrom 10 = .ok (.sipush 410, 3) := by decide +kernel
theorem dX6_copyFrom_13 : decode cX6_copyFrom 13 = .ok (.invokestatic 28, 3) := by decide +kernel
theorem dX6_copyFrom_16 : decode cX6_copyFrom 16 = .ok (.aload_n 0, 1) := by decide +kernel
theorem dX6_copyFrom_17 : decode cX6_copyFrom 17 = .ok (.aload_n 1, 1) := by decide +kernel
theorem dX6_copyFrom_18 : decode cX6_copyFrom 18 = .ok (.getfield 18, 3) := by decide +kernel
theorem dX6_copyFrom_21 : decode cX6_copyFrom 21 = .ok (.putfield 18, 3) := by decide +kernel
theorem dX6_copyFrom_24 : decode cX6_copyFrom 24 = .ok (.aload_n 0, 1) := by decide +kernel
theorem dX6_copyFrom_25 : decode cX6_copyFrom 25 = .ok (.aload_n 1, 1) := by decide +kernel
theorem dX6_copyFrom_26 : decode cX6_copyFrom 26 = .ok (.getfield 22, 3) := by decide +kernel
theorem dX6_copyFrom_29 : decode cX6_copyFrom 29 = .ok (.putfield 22, 3) := by decide +kernel
theorem dX6_copyFrom_32 : decode cX6_copyFrom 32 = .ok (.return_, 1) := by decide +kernel
theorem dX6_clear_0 : decode cX6_clear 0 = .ok (.iconst 0, 1) := by decide +kernel
theorem dX6_clear_1 : decode cX6_clear 1 = .ok (.istore_n 1, 1) := by decide +kernel
theorem dX6_clear_2 : decode cX6_clear 2 = .ok (.iload_n 1, 1) := by decide +kernel
theorem dX6_clear_3 : decode cX6_clear 3 = .ok (.sipush 410, 3) := by decide +kernel
theorem dX6_clear_6 : decode cX6_clear 6 = .ok (.if_icmp .ge 16, 3) := by decide +kernel
theorem dX6_clear_9 : decode cX6_clear 9 = .ok (.aload_n 0, 1) := by decide +kernel
theorem dX6_clear_10 : decode cX6_clear 10 = .ok (.getfield 9, 3) := by decide +kernel
theorem dX6_clear_13 : decode cX6_clear 13 = .ok (.iload_n 1, 1) := by decide +kernel
theorem dX6_clear_14 : decode cX6_clear 14 = .ok (.iload_n 1, 1) := by decide +kernel
theorem dX6_clear_15 : decode cX6_clear 15 = .ok (.iastore, 1) := by decide +kernel
theorem dX6_clear_16 : decode cX6_clear 16 = .ok (.iinc 1 1, 3) := by decide +kernel
theorem dX6_clear_19 : decode cX6_clear 19 = .ok (.goto (-17), 3) := by decide +kernel
theorem dX6_clear_22 : decode cX6_clear 22 = .ok (.aload_n 0, 1) := by decide +kernel
theorem dX6_clear_23 : decode cX6_clear 23 = .ok (.sipush 410, 3) := by decide +kernel
theorem dX6_clear_26 : decode cX6_clear 26 = .ok (.putfield 18, 3) := by decide +kernel
theorem dX6_clear_29 : decode cX6_clear 29 = .ok (.aload_n 0, 1) := by decide +kernel
theorem dX6_clear_30 : decode cX6_clear 30 = .ok (.iconst 0, 1) := by decide +kernel
theorem dX6_clear_31 : decode cX6_clear 31 = .ok (.putfield 22, 3) := by decide +kernel
theorem dX6_clear_34 : decode cX6_clear 34 = .ok (.return_, 1) := by decide +kernel
theorem dX6_add_0 : decode cX6_add 0 = .ok (.aload_n 0, 1) := by decide +kernel
theorem dX6_add_1 : decode cX6_add 1 = .ok (.getfield 22, 3) := by decide +kernel
theorem dX6_add_4 : decode cX6_add 4 = .ok (.bipush 8, 2) := by decide +kernel
theorem dX6_add_6 : decode cX6_add 6 = .ok (.if_icmp .lt 5, 3) := by decide +kernel
theorem dX6_add_9 : decode cX6_add 9 = .ok (.iconst 0, 1) := by decide +kernel
theorem dX6_add_10 : decode cX6_add 10 = .ok (.ireturn, 1) := by decide +kernel
theorem dX6_add_11 : decode cX6_add 11 = .ok (.aload_n 0, 1) := by decide +kernel
theorem dX6_add_12 : decode cX6_add 12 = .ok (.dup, 1) := by decide +kernel
theorem dX6_add_13 : decode cX6_add 13 = .ok (.getfield 22, 3) := by decide +kernel
theorem dX6_add_16 : decode cX6_add 16 = .ok (.iconst 1, 1) := by decide +kernel
theorem dX6_add_17 : decode cX6_add 17 = .ok (.iadd, 1) := by decide +kernel
theorem dX6_add_18 : decode cX6_add 18 = .ok (.putfield 22, 3) := by decide +kernel
theorem dX6_add_21 : decode cX6_add 21 = .ok (.iconst 0, 1) := by decide +kernel
theorem dX6_add_22 : decode cX6_add 22 = .ok (.istore 4, 2) := by decide +kernel
theorem dX6_add_24 : decode cX6_add 24 = .ok (.iconst 0, 1) := by decide +kernel
theorem dX6_add_25 : decode cX6_add 25 = .ok (.istore 5, 2) := by decide +kernel
theorem dX6_add_27 : decode cX6_add 27 = .ok (.iload 5, 2) := by decide +kernel
theorem dX6_add_29 : decode cX6_add 29 = .ok (.aload_n 0, 1) := by decide +kernel
theorem dX6_add_30 : decode cX6_add 30 = .ok (.getfield 18, 3) := by decide +kernel
theorem dX6_add_33 : decode cX6_add 33 = .ok (.if_icmp .ge 42, 3) := by decide +kernel
theorem dX6_add_36 : decode cX6_add 36 = .ok (.aload_n 0, 1) := by decide +kernel
theorem dX6_add_37 : decode cX6_add 37 = .ok (.getfield 9, 3) := by decide +kernel
theorem dX6_add_40 : decode cX6_add 40 = .ok (.iload 5, 2) := by decide +kernel
theorem dX6_add_42 : decode cX6_add 42 = .ok (.iaload, 1) := by decide +kernel
theorem dX6_add_43 : decode cX6_add 43 = .ok (.iload_n 1, 1) := by decide +kernel
theorem dX6_add_44 : decode cX6_add 44 = .ok (.iload_n 2, 1) := by decide +kernel
theorem dX6_add_45 : decode cX6_add 45 = .ok (.invokestatic 34, 3) := by decide +kernel
theorem dX6_add_48 : decode cX6_add 48 = .ok (.iload_n 3, 1) := by decide +kernel
theorem dX6_add_49 : decode cX6_add 49 = .ok (.if_icmp .ne 20, 3) := by decide +kernel
theorem dX6_add_52 : decode cX6_add 52 = .ok (.aload_n 0, 1) := by decide +kernel
theorem dX6_add_53 : decode cX6_add 53 = .ok (.getfield 9, 3) := by decide +kernel
theorem dX6_add_56 : decode cX6_add 56 = .ok (.iload 4, 2) := by decide +kernel
theorem dX6_add_58 : decode cX6_add 58 = .ok (.aload_n 0, 1) := by decide +kernel
theorem dX6_add_59 : decode cX6_add 59 = .ok (.getfield 9, 3) := by decide +kernel
theorem dX6_add_62 : decode cX6_add 62 = .ok (.iload 5, 2) := by decide +kernel
theorem dX6_add_64 : decode cX6_add 64 = .ok (.iaload, 1) := by decide +kernel
theorem dX6_add_65 : decode cX6_add 65 = .ok (.iastore, 1) := by decide +kernel
theorem dX6_add_66 : decode cX6_add 66 = .ok (.iinc 4 1, 3) := by decide +kernel
theorem dX6_add_69 : decode cX6_add 69 = .ok (.iinc 5 1, 3) := by decide +kernel
theorem dX6_add_72 : decode cX6_add 72 = .ok (.goto (-45), 3) := by decide +kernel
theorem dX6_add_75 : decode cX6_add 75 = .ok (.aload_n 0, 1) := by decide +kernel
theorem dX6_add_76 : decode cX6_add 76 = .ok (.iload 4, 2) := by decide +kernel
theorem dX6_add_78 : decode cX6_add 78 = .ok (.putfield 18, 3) := by decide +kernel
theorem dX6_add_81 : decode cX6_add 81 = .ok (.iconst 1, 1) := by decide +kernel
theorem dX6_add_82 : decode cX6_add 82 = .ok (.ireturn, 1) := by decide +kernel
theorem dX6_isDown_0 : decode cX6_isDown 0 = .ok (.iload_n 2, 1) := by decide +kernel
theorem dX6_isDown_1 : decode cX6_isDown 1 = .ok (.iload_n 0, 1) := by decide +kernel
theorem dX6_isDown_2 : decode cX6_isDown 2 = .ok (.bipush 10, 2) := by decide +kernel
theorem dX6_isDown_4 : decode cX6_isDown 4 = .ok (.idiv, 1) := by decide +kernel
theorem dX6_isDown_5 : decode cX6_isDown 5 = .ok (.if_icmp .lt 16, 3) := by decide +kernel
theorem dX6_isDown_8 : decode cX6_isDown 8 = .ok (.iload_n 2, 1) := by decide +kernel
theorem dX6_isDown_9 : decode cX6_isDown 9 = .ok (.iload_n 0, 1) := by decide +kernel
theorem dX6_isDown_10 : decode cX6_isDown 10 = .ok (.iload_n 1, 1) := by decide +kernel
theorem dX6_isDown_11 : decode cX6_isDown 11 = .ok (.invokestatic 38, 3) := by decide +kernel
theorem dX6_isDown_14 : decode cX6_isDown 14 = .ok (.if_icmp .gt 7, 3) := by decide +kernel
theorem dX6_isDown_17 : decode cX6_isDown 17 = .ok (.iconst 1, 1) := by decide +kernel
theorem dX6_isDown_18 : decode cX6_isDown 18 = .ok (.goto 4, 3) := by decide +kernel
theorem dX6_isDown_21 : decode cX6_isDown 21 = .ok (.iconst 0, 1) := by decide +kernel
theorem dX6_isDown_22 : decode cX6_isDown 22 = .ok (.ireturn, 1) := by decide +kernel
theorem dX6_lastDown_0 : decode cX6_lastDown 0 = .ok (.iload_n 0, 1) := by decide +kernel
theorem dX6_lastDown_1 : decode cX6_lastDown 1 = .ok (.bipush 10, 2) := by decide +kernel
theorem dX6_lastDown_3 : decode cX6_lastDown 3 = .ok (.idiv, 1) := by decide +kernel
theorem dX6_lastDown_4 : decode cX6_lastDown 4 = .ok (.iload_n 1, 1) := by decide +kernel
theorem dX6_lastDown_5 : decode cX6_lastDown 5 = .ok (.iload_n 0, 1) := by decide +kernel
theorem dX6_lastDown_6 : decode cX6_lastDown 6 = .ok (.bipush 10, 2) := by decide +kernel
theorem dX6_lastDown_8 : decode cX6_lastDown 8 = .ok (.irem, 1) := by decide +kernel
theorem dX6_lastDown_9 : decode cX6_lastDown 9 = .ok (.imul, 1) := by decide +kernel
theorem dX6_lastDown_10 : decode cX6_lastDown 10 = .ok (.iadd, 1) := by decide +kernel
theorem dX6_lastDown_11 : decode cX6_lastDown 11 = .ok (.ireturn, 1) := by decide +kernel
theorem dX6_caseAt_0 : decode cX6_caseAt 0 = .ok (.iload_n 1, 1) := by decide +kernel
theorem dX6_caseAt_1 : decode cX6_caseAt 1 = .ok (.ifCond .lt 20, 3) := by decide +kernel
theorem dX6_caseAt_4 : decode cX6_caseAt 4 = .ok (.iload_n 1, 1) := by decide +kernel
theorem dX6_caseAt_5 : decode cX6_caseAt 5 = .ok (.aload_n 0, 1) := by decide +kernel
theorem dX6_caseAt_6 : decode cX6_caseAt 6 = .ok (.getfield 18, 3) := by decide +kernel
theorem dX6_caseAt_9 : decode cX6_caseAt 9 = .ok (.if_icmp .ge 12, 3) := by decide +kernel
theorem dX6_caseAt_12 : decode cX6_caseAt 12 = .ok (.aload_n 0, 1) := by decide +kernel
theorem dX6_caseAt_13 : decode cX6_caseAt 13 = .ok (.getfield 9, 3) := by decide +kernel
theorem dX6_caseAt_16 : decode cX6_caseAt 16 = .ok (.iload_n 1, 1) := by decide +kernel
theorem dX6_caseAt_17 : decode cX6_caseAt 17 = .ok (.iaload, 1) := by decide +kernel
theorem dX6_caseAt_18 : decode cX6_caseAt 18 = .ok (.goto 5, 3) := by decide +kernel
theorem dX6_caseAt_21 : decode cX6_caseAt 21 = .ok (.bipush (-6), 2) := by decide +kernel
theorem dX6_caseAt_23 : decode cX6_caseAt 23 = .ok (.ireturn, 1) := by decide +kernel
theorem dX6_bestQuestion_0 : decode cX6_bestQuestion 0 = .ok (.bipush (-6), 2) := by decide +kernel
theorem dX6_bestQuestion_2 : decode cX6_bestQuestion 2 = .ok (.istore_n 1, 1) := by decide +kernel
theorem dX6_bestQuestion_3 : decode cX6_bestQuestion 3 = .ok (.sipush 411, 3) := by decide +kernel
theorem dX6_bestQuestion_6 : decode cX6_bestQuestion 6 = .ok (.istore_n 2, 1) := by decide +kernel
theorem dX6_bestQuestion_7 : decode cX6_bestQuestion 7 = .ok (.iconst 0, 1) := by decide +kernel
theorem dX6_bestQuestion_8 : decode cX6_bestQuestion 8 = .ok (.istore_n 3, 1) := by decide +kernel
theorem dX6_bestQuestion_9 : decode cX6_bestQuestion 9 = .ok (.iload_n 3, 1) := by decide +kernel
theorem dX6_bestQuestion_10 : decode cX6_bestQuestion 10 = .ok (.iconst 5, 1) := by decide +kernel
theorem dX6_bestQuestion_11 : decode cX6_bestQuestion 11 = .ok (.if_icmp .gt 83, 3) := by decide +kernel
theorem dX6_bestQuestion_14 : decode cX6_bestQuestion 14 = .ok (.aload_n 0, 1) := by decide +kernel
theorem dX6_bestQuestion_15 : decode cX6_bestQuestion 15 = .ok (.getfield 18, 3) := by decide +kernel
theorem dX6_bestQuestion_18 : decode cX6_bestQuestion 18 = .ok (.ifCond .le 76, 3) := by decide +kernel
theorem dX6_bestQuestion_21 : decode cX6_bestQuestion 21 = .ok (.aload_n 0, 1) := by decide +kernel
theorem dX6_bestQuestion_22 : decode cX6_bestQuestion 22 = .ok (.iload_n 3, 1) := by decide +kernel
theorem dX6_bestQuestion_23 : decode cX6_bestQuestion 23 = .ok (.invokevirtual 42, 3) := by decide +kernel
theorem dX6_bestQuestion_26 : decode cX6_bestQuestion 26 = .ok (.iconst 0, 1) := by decide +kernel
theorem dX6_bestQuestion_27 : decode cX6_bestQuestion 27 = .ok (.istore 4, 2) := by decide +kernel
theorem dX6_bestQuestion_29 : decode cX6_bestQuestion 29 = .ok (.iconst 0, 1) := by decide +kernel
theorem dX6_bestQuestion_30 : decode cX6_bestQuestion 30 = .ok (.istore 5, 2) := by decide +kernel
theorem dX6_bestQuestion_32 : decode cX6_bestQuestion 32 = .ok (.iload 5, 2) := by decide +kernel
theorem dX6_bestQuestion_34 : decode cX6_bestQuestion 34 = .ok (.bipush 100, 2) := by decide +kernel
theorem dX6_bestQuestion_36 : decode cX6_bestQuestion 36 = .ok (.if_icmp .ge 52, 3) := by decide +kernel
theorem dX6_bestQuestion_39 : decode cX6_bestQuestion 39 = .ok (.iload 4, 2) := by decide +kernel
theorem dX6_bestQuestion_41 : decode cX6_bestQuestion 41 = .ok (.aload_n 0, 1) := by decide +kernel
theorem dX6_bestQuestion_42 : decode cX6_bestQuestion 42 = .ok (.getfield 15, 3) := by decide +kernel
theorem dX6_bestQuestion_45 : decode cX6_bestQuestion 45 = .ok (.iload 5, 2) := by decide +kernel
theorem dX6_bestQuestion_47 : decode cX6_bestQuestion 47 = .ok (.iaload, 1) := by decide +kernel
theorem dX6_bestQuestion_48 : decode cX6_bestQuestion 48 = .ok (.iadd, 1) := by decide +kernel
theorem dX6_bestQuestion_49 : decode cX6_bestQuestion 49 = .ok (.istore 4, 2) := by decide +kernel
theorem dX6_bestQuestion_51 : decode cX6_bestQuestion 51 = .ok (.iload 4, 2) := by decide +kernel
theorem dX6_bestQuestion_53 : decode cX6_bestQuestion 53 = .ok (.aload_n 0, 1) := by decide +kernel
theorem dX6_bestQuestion_54 : decode cX6_bestQuestion 54 = .ok (.getfield 18, 3) := by decide +kernel
theorem dX6_bestQuestion_57 : decode cX6_bestQuestion 57 = .ok (.iload 4, 2) := by decide +kernel
theorem dX6_bestQuestion_59 : decode cX6_bestQuestion 59 = .ok (.isub, 1) := by decide +kernel
theorem dX6_bestQuestion_60 : decode cX6_bestQuestion 60 = .ok (.invokestatic 46, 3) := by decide +kernel
theorem dX6_bestQuestion_63 : decode cX6_bestQuestion 63 = .ok (.istore 6, 2) := by decide +kernel
theorem dX6_bestQuestion_65 : decode cX6_bestQuestion 65 = .ok (.iload 6, 2) := by decide +kernel
theorem dX6_bestQuestion_67 : decode cX6_bestQuestion 67 = .ok (.iload_n 2, 1) := by decide +kernel
theorem dX6_bestQuestion_68 : decode cX6_bestQuestion 68 = .ok (.if_icmp .ge 14, 3) := by decide +kernel
theorem dX6_bestQuestion_71 : decode cX6_bestQuestion 71 = .ok (.iload 6, 2) := by decide +kernel
theorem dX6_bestQuestion_73 : decode cX6_bestQuestion 73 = .ok (.istore_n 2, 1) := by decide +kernel
theorem dX6_bestQuestion_74 : decode cX6_bestQuestion 74 = .ok (.bipush 100, 2) := by decide +kernel
theorem dX6_bestQuestion_76 : decode cX6_bestQuestion 76 = .ok (.iload_n 3, 1) := by decide +kernel
theorem dX6_bestQuestion_77 : decode cX6_bestQuestion 77 = .ok (.imul, 1) := by decide +kernel
theorem dX6_bestQuestion_78 : decode cX6_bestQuestion 78 = .ok (.iload 5, 2) := by decide +kernel
theorem dX6_bestQuestion_80 : decode cX6_bestQuestion 80 = .ok (.iadd, 1) := by decide +kernel
theorem dX6_bestQuestion_81 : decode cX6_bestQuestion 81 = .ok (.istore_n 1, 1) := by decide +kernel
theorem dX6_bestQuestion_82 : decode cX6_bestQuestion 82 = .ok (.iinc 5 1, 3) := by decide +kernel
theorem dX6_bestQuestion_85 : decode cX6_bestQuestion 85 = .ok (.goto (-53), 3) := by decide +kernel
theorem dX6_bestQuestion_88 : decode cX6_bestQuestion 88 = .ok (.iinc 3 1, 3) := by decide +kernel
theorem dX6_bestQuestion_91 : decode cX6_bestQuestion 91 = .ok (.goto (-82), 3) := by decide +kernel
theorem dX6_bestQuestion_94 : decode cX6_bestQuestion 94 = .ok (.iload_n 1, 1) := by decide +kernel
theorem dX6_bestQuestion_95 : decode cX6_bestQuestion 95 = .ok (.ireturn, 1) := by decide +kernel
theorem dX6_tally_0 : decode cX6_tally 0 = .ok (.aload_n 0, 1) := by decide +kernel
theorem dX6_tally_1 : decode cX6_tally 1 = .ok (.getfield 15, 3) := by decide +kernel
theorem dX6_tally_4 : decode cX6_tally 4 = .ok (.iconst 0, 1) := by decide +kernel
theorem dX6_tally_5 : decode cX6_tally 5 = .ok (.invokestatic 51, 3) := by decide +kernel
theorem dX6_tally_8 : decode cX6_tally 8 = .ok (.iconst 0, 1) := by decide +kernel
theorem dX6_tally_9 : decode cX6_tally 9 = .ok (.istore_n 2, 1) := by decide +kernel
theorem dX6_tally_10 : decode cX6_tally 10 = .ok (.iload_n 2, 1) := by decide +kernel
theorem dX6_tally_11 : decode cX6_tally 11 = .ok (.aload_n 0, 1) := by decide +kernel
theorem dX6_tally_12 : decode cX6_tally 12 = .ok (.getfield 18, 3) := by decide +kernel
theorem dX6_tally_15 : decode cX6_tally 15 = .ok (.if_icmp .ge 76, 3) := by decide +kernel
theorem dX6_tally_18 : decode cX6_tally 18 = .ok (.aload_n 0, 1) := by decide +kernel
theorem dX6_tally_19 : decode cX6_tally 19 = .ok (.getfield 9, 3) := by decide +kernel
theorem dX6_tally_22 : decode cX6_tally 22 = .ok (.iload_n 2, 1) := by decide +kernel
theorem dX6_tally_23 : decode cX6_tally 23 = .ok (.iaload, 1) := by decide +kernel
theorem dX6_tally_24 : decode cX6_tally 24 = .ok (.bipush 10, 2) := by decide +kernel
theorem dX6_tally_26 : decode cX6_tally 26 = .ok (.idiv, 1) := by decide +kernel
theorem dX6_tally_27 : decode cX6_tally 27 = .ok (.istore_n 3, 1) := by decide +kernel
theorem dX6_tally_28 : decode cX6_tally 28 = .ok (.aload_n 0, 1) := by decide +kernel
theorem dX6_tally_29 : decode cX6_tally 29 = .ok (.getfield 9, 3) := by decide +kernel
theorem dX6_tally_32 : decode cX6_tally 32 = .ok (.iload_n 2, 1) := by decide +kernel
theorem dX6_tally_33 : decode cX6_tally 33 = .ok (.iaload, 1) := by decide +kernel
theorem dX6_tally_34 : decode cX6_tally 34 = .ok (.iload_n 1, 1) := by decide +kernel
theorem dX6_tally_35 : decode cX6_tally 35 = .ok (.invokestatic 38, 3) := by decide +kernel
theorem dX6_tally_38 : decode cX6_tally 38 = .ok (.iconst 1, 1) := by decide +kernel
theorem dX6_tally_39 : decode cX6_tally 39 = .ok (.iadd, 1) := by decide +kernel
theorem dX6_tally_40 : decode cX6_tally 40 = .ok (.istore 4, 2) := by decide +kernel
theorem dX6_tally_42 : decode cX6_tally 42 = .ok (.iload_n 3, 1) := by decide +kernel
theorem dX6_tally_43 : decode cX6_tally 43 = .ok (.ifCond .lt 42, 3) := by decide +kernel
theorem dX6_tally_46 : decode cX6_tally 46 = .ok (.iload_n 3, 1) := by decide +kernel
theorem dX6_tally_47 : decode cX6_tally 47 = .ok (.bipush 100, 2) := by decide +kernel
theorem dX6_tally_49 : decode cX6_tally 49 = .ok (.if_icmp .gt 36, 3) := by decide +kernel
theorem dX6_tally_52 : decode cX6_tally 52 = .ok (.iload 4, 2) := by decide +kernel
theorem dX6_tally_54 : decode cX6_tally 54 = .ok (.ifCond .lt 31, 3) := by decide +kernel
theorem dX6_tally_57 : decode cX6_tally 57 = .ok (.iload 4, 2) := by decide +kernel
theorem dX6_tally_59 : decode cX6_tally 59 = .ok (.bipush 100, 2) := by decide +kernel
theorem dX6_tally_61 : decode cX6_tally 61 = .ok (.if_icmp .gt 24, 3) := by decide +kernel
theorem dX6_tally_64 : decode cX6_tally 64 = .ok (.aload_n 0, 1) := by decide +kernel
theorem dX6_tally_65 : decode cX6_tally 65 = .ok (.getfield 15, 3) := by decide +kernel
theorem dX6_tally_68 : decode cX6_tally 68 = .ok (.iload_n 3, 1) := by decide +kernel
theorem dX6_tally_69 : decode cX6_tally 69 = .ok (.dup2, 1) := by decide +kernel
theorem dX6_tally_70 : decode cX6_tally 70 = .ok (.iaload, 1) := by decide +kernel
theorem dX6_tally_71 : decode cX6_tally 71 = .ok (.iconst 1, 1) := by decide +kernel
theorem dX6_tally_72 : decode cX6_tally 72 = .ok (.iadd, 1) := by decide +kernel
theorem dX6_tally_73 : decode cX6_tally 73 = .ok (.iastore, 1) := by decide +kernel
theorem dX6_tally_74 : decode cX6_tally 74 = .ok (.aload_n 0, 1) := by decide +kernel
theorem dX6_tally_75 : decode cX6_tally 75 = .ok (.getfield 15, 3) := by decide +kernel
theorem dX6_tally_78 : decode cX6_tally 78 = .ok (.iload 4, 2) := by decide +kernel
theorem dX6_tally_80 : decode cX6_tally 80 = .ok (.dup2, 1) := by decide +kernel
theorem dX6_tally_81 : decode cX6_tally 81 = .ok (.iaload, 1) := by decide +kernel
theorem dX6_tally_82 : decode cX6_tally 82 = .ok (.iconst 1, 1) := by decide +kernel
theorem dX6_tally_83 : decode cX6_tally 83 = .ok (.isub, 1) := by decide +kernel
theorem dX6_tally_84 : decode cX6_tally 84 = .ok (.iastore, 1) := by decide +kernel
theorem dX6_tally_85 : decode cX6_tally 85 = .ok (.iinc 2 1, 3) := by decide +kernel
theorem dX6_tally_88 : decode cX6_tally 88 = .ok (.goto (-78), 3) := by decide +kernel
theorem dX6_tally_91 : decode cX6_tally 91 = .ok (.return_, 1) := by decide +kernel
theorem dX6_leftAtMost_0 : decode cX6_leftAtMost 0 = .ok (.iconst 0, 1) := by decide +kernel
theorem dX6_leftAtMost_1 : decode cX6_leftAtMost 1 = .ok (.istore_n 2, 1) := by decide +kernel
theorem dX6_leftAtMost_2 : decode cX6_leftAtMost 2 = .ok (.iconst 0, 1) := by decide +kernel
theorem dX6_leftAtMost_3 : decode cX6_leftAtMost 3 = .ok (.istore_n 3, 1) := by decide +kernel
theorem dX6_leftAtMost_4 : decode cX6_leftAtMost 4 = .ok (.iload_n 3, 1) := by decide +kernel
theorem dX6_leftAtMost_5 : decode cX6_leftAtMost 5 = .ok (.aload_n 0, 1) := by decide +kernel
theorem dX6_leftAtMost_6 : decode cX6_leftAtMost 6 = .ok (.getfield 18, 3) := by decide +kernel
theorem dX6_leftAtMost_9 : decode cX6_leftAtMost 9 = .ok (.if_icmp .ge 32, 3) := by decide +kernel
theorem dX6_leftAtMost_12 : decode cX6_leftAtMost 12 = .ok (.aload_n 0, 1) := by decide +kernel
theorem dX6_leftAtMost_13 : decode cX6_leftAtMost 13 = .ok (.getfield 9, 3) := by decide +kernel
theorem dX6_leftAtMost_16 : decode cX6_leftAtMost 16 = .ok (.iload_n 3, 1) := by decide +kernel
theorem dX6_leftAtMost_17 : decode cX6_leftAtMost 17 = .ok (.iaload, 1) := by decide +kernel
theorem dX6_leftAtMost_18 : decode cX6_leftAtMost 18 = .ok (.iload_n 1, 1) := by decide +kernel
theorem dX6_leftAtMost_19 : decode cX6_leftAtMost 19 = .ok (.bipush 100, 2) := by decide +kernel
theorem dX6_leftAtMost_21 : decode cX6_leftAtMost 21 = .ok (.idiv, 1) := by decide +kernel
theorem dX6_leftAtMost_22 : decode cX6_leftAtMost 22 = .ok (.iload_n 1, 1) := by decide +kernel
theorem dX6_leftAtMost_23 : decode cX6_leftAtMost 23 = .ok (.bipush 100, 2) := by decide +kernel
theorem dX6_leftAtMost_25 : decode cX6_leftAtMost 25 = .ok (.irem, 1) := by decide +kernel
theorem dX6_leftAtMost_26 : decode cX6_leftAtMost 26 = .ok (.invokestatic 34, 3) := by decide +kernel
theorem dX6_leftAtMost_29 : decode cX6_leftAtMost 29 = .ok (.ifCond .eq 6, 3) := by decide +kernel
theorem dX6_leftAtMost_32 : decode cX6_leftAtMost 32 = .ok (.iinc 2 1, 3) := by decide +kernel
theorem dX6_leftAtMost_35 : decode cX6_leftAtMost 35 = .ok (.iinc 3 1, 3) := by decide +kernel
theorem dX6_leftAtMost_38 : decode cX6_leftAtMost 38 = .ok (.goto (-34), 3) := by decide +kernel
theorem dX6_leftAtMost_41 : decode cX6_leftAtMost 41 = .ok (.iload_n 2, 1) := by decide +kernel
theorem dX6_leftAtMost_42 : decode cX6_leftAtMost 42 = .ok (.aload_n 0, 1) := by decide +kernel
theorem dX6_leftAtMost_43 : decode cX6_leftAtMost 43 = .ok (.getfield 18, 3) := by decide +kernel
theorem dX6_leftAtMost_46 : decode cX6_leftAtMost 46 = .ok (.iload_n 2, 1) := by decide +kernel
theorem dX6_leftAtMost_47 : decode cX6_leftAtMost 47 = .ok (.isub, 1) := by decide +kernel
theorem dX6_leftAtMost_48 : decode cX6_leftAtMost 48 = .ok (.invokestatic 46, 3) := by decide +kernel
theorem dX6_leftAtMost_51 : decode cX6_leftAtMost 51 = .ok (.ireturn, 1) := by decide +kernel
theorem dX7_init_0 : decode cX7_init 0 = .ok (.aload_n 0, 1) := by decide +kernel
theorem dX7_init_1 : decode cX7_init 1 = .ok (.invokespecial 3, 3) := by decide +kernel
theorem dX7_init_4 : decode cX7_init 4 = .ok (.aload_n 0, 1) := by decide +kernel
theorem dX7_init_5 : decode cX7_init 5 = .ok (.iconst 0, 1) := by decide +kernel
theorem dX7_init_6 : decode cX7_init 6 = .ok (.putfield 9, 3) := by decide +kernel
theorem dX7_init_9 : decode cX7_init 9 = .ok (.aload_n 0, 1) := by decide +kernel
theorem dX7_init_10 : decode cX7_init 10 = .ok (.bipush (-6), 2) := by decide +kernel
theorem dX7_init_12 : decode cX7_init 12 = .ok (.putfield 15, 3) := by decide +kernel
theorem dX7_init_15 : decode cX7_init 15 = .ok (.aload_n 0, 1) := by decide +kernel
theorem dX7_init_16 : decode cX7_init 16 = .ok (.bipush (-6), 2) := by decide +kernel
theorem dX7_init_18 : decode cX7_init 18 = .ok (.putfield 18, 3) := by decide +kernel
theorem dX7_init_21 : decode cX7_init 21 = .ok (.aload_n 0, 1) := by decide +kernel
theorem dX7_init_22 : decode cX7_init 22 = .ok (.iconst 0, 1) := by decide +kernel
theorem dX7_init_23 : decode cX7_init 23 = .ok (.putfield 21, 3) := by decide +kernel
theorem dX7_init_26 : decode cX7_init 26 = .ok (.aload_n 0, 1) := by decide +kernel
theorem dX7_init_27 : decode cX7_init 27 = .ok (.bipush (-6), 2) := by decide +kernel
theorem dX7_init_29 : decode cX7_init 29 = .ok (.putfield 24, 3) := by decide +kernel
theorem dX7_init_32 : decode cX7_init 32 = .ok (.aload_n 0, 1) := by decide +kernel
theorem dX7_init_33 : decode cX7_init 33 = .ok (.bipush (-6), 2) := by decide +kernel
theorem dX7_init_35 : decode cX7_init 35 = .ok (.putfield 27, 3) := by decide +kernel
theorem dX7_init_38 : decode cX7_init 38 = .ok (.return_, 1) := by decide +kernel
theorem dX7_canBe_0 : decode cX7_canBe 0 = .ok (.aload_n 1, 1) := by decide +kernel
theorem dX7_canBe_1 : decode cX7_canBe 1 = .ok (.invokevirtual 30, 3) := by decide +kernel
theorem dX7_canBe_4 : decode cX7_canBe 4 = .ok (.bipush (-6), 2) := by decide +kernel
theorem dX7_canBe_6 : decode cX7_canBe 6 = .ok (.if_icmp .eq 5, 3) := by decide +kernel
theorem dX7_canBe_9 : decode cX7_canBe 9 = .ok (.iconst 0, 1) := by decide +kernel
theorem dX7_canBe_10 : decode cX7_canBe 10 = .ok (.ireturn, 1) := by decide +kernel
theorem dX7_canBe_11 : decode cX7_canBe 11 = .ok (.aload_n 0, 1) := by decide +kernel
theorem dX7_canBe_12 : decode cX7_canBe 12 = .ok (.invokevirtual 36, 3) := by decide +kernel
theorem dX7_canBe_15 : decode cX7_canBe 15 = .ok (.aload_n 3, 1) := by decide +kernel
theorem dX7_canBe_16 : decode cX7_canBe 16 = .ok (.aload_n 2, 1) := by decide +kernel
theorem dX7_canBe_17 : decode cX7_canBe 17 = .ok (.invokevirtual 39, 3) := by decide +kernel
theorem dX7_canBe_20 : decode cX7_canBe 20 = .ok (.iconst 0, 1) := by decide +kernel
theorem dX7_canBe_21 : decode cX7_canBe 21 = .ok (.istore 4, 2) := by decide +kernel
theorem dX7_canBe_23 : decode cX7_canBe 23 = .ok (.iconst 0, 1) := by decide +kernel
theorem dX7_canBe_24 : decode cX7_canBe 24 = .ok (.istore 5, 2) := by decide +kernel
theorem dX7_canBe_26 : decode cX7_canBe 26 = .ok (.iload 5, 2) := by decide +kernel
theorem dX7_canBe_28 : decode cX7_canBe 28 = .ok (.bipush 60, 2) := by decide +kernel
theorem dX7_canBe_30 : decode cX7_canBe 30 = .ok (.if_icmp .ge 66, 3) := by decide +kernel
theorem dX7_canBe_33 : decode cX7_canBe 33 = .ok (.iload 4, 2) := by decide +kernel
theorem dX7_canBe_35 : decode cX7_canBe 35 = .ok (.aload_n 1, 1) := by decide +kernel
theorem dX7_canBe_36 : decode cX7_canBe 36 = .ok (.invokevirtual 45, 3) := by decide +kernel
theorem dX7_canBe_39 : decode cX7_canBe 39 = .ok (.if_icmp .ge 57, 3) := by decide +kernel
theorem dX7_canBe_42 : decode cX7_canBe 42 = .ok (.aload_n 0, 1) := by decide +kernel
theorem dX7_canBe_43 : decode cX7_canBe 43 = .ok (.getfield 15, 3) := by decide +kernel
theorem dX7_canBe_46 : decode cX7_canBe 46 = .ok (.bipush (-6), 2) := by decide +kernel
theorem dX7_canBe_48 : decode cX7_canBe 48 = .ok (.if_icmp .ne 48, 3) := by decide +kernel
theorem dX7_canBe_51 : decode cX7_canBe 51 = .ok (.aload_n 1, 1) := by decide +kernel
theorem dX7_canBe_52 : decode cX7_canBe 52 = .ok (.iload 4, 2) := by decide +kernel
theorem dX7_canBe_54 : decode cX7_canBe 54 = .ok (.invokevirtual 48, 3) := by decide +kernel
theorem dX7_canBe_57 : decode cX7_canBe 57 = .ok (.istore 6, 2) := by decide +kernel
theorem dX7_canBe_59 : decode cX7_canBe 59 = .ok (.aload_n 0, 1) := by decide +kernel
theorem dX7_canBe_60 : decode cX7_canBe 60 = .ok (.aload_n 3, 1) := by decide +kernel
theorem dX7_canBe_61 : decode cX7_canBe 61 = .ok (.iload 6, 2) := by decide +kernel
theorem dX7_canBe_63 : decode cX7_canBe 63 = .ok (.aload_n 1, 1) := by decide +kernel
theorem dX7_canBe_64 : decode cX7_canBe 64 = .ok (.iload 4, 2) := by decide +kernel
theorem dX7_canBe_66 : decode cX7_canBe 66 = .ok (.invokevirtual 52, 3) := by decide +kernel
theorem dX7_canBe_69 : decode cX7_canBe 69 = .ok (.aload_n 1, 1) := by decide +kernel
theorem dX7_canBe_70 : decode cX7_canBe 70 = .ok (.iload 4, 2) := by decide +kernel
theorem dX7_canBe_72 : decode cX7_canBe 72 = .ok (.iload 6, 2) := by decide +kernel
theorem dX7_canBe_74 : decode cX7_canBe 74 = .ok (.invokevirtual 55, 3) := by decide +kernel
theorem dX7_canBe_77 : decode cX7_canBe 77 = .ok (.invokevirtual 59, 3) := by decide +kernel
theorem dX7_canBe_80 : decode cX7_canBe 80 = .ok (.iload 4, 2) := by decide +kernel
theorem dX7_canBe_82 : decode cX7_canBe 82 = .ok (.iload 6, 2) := by decide +kernel
theorem dX7_canBe_84 : decode cX7_canBe 84 = .ok (.invokestatic 63, 3) := by decide +kernel
theorem dX7_canBe_87 : decode cX7_canBe 87 = .ok (.iadd, 1) := by decide +kernel
theorem dX7_canBe_88 : decode cX7_canBe 88 = .ok (.istore 4, 2) := by decide +kernel
theorem dX7_canBe_90 : decode cX7_canBe 90 = .ok (.iinc 5 1, 3) := by decide +kernel
theorem dX7_canBe_93 : decode cX7_canBe 93 = .ok (.goto (-67), 3) := by decide +kernel
theorem dX7_canBe_96 : decode cX7_canBe 96 = .ok (.aload_n 0, 1) := by decide +kernel
theorem dX7_canBe_97 : decode cX7_canBe 97 = .ok (.getfield 15, 3) := by decide +kernel
theorem dX7_canBe_100 : decode cX7_canBe 100 = .ok (.bipush (-6), 2) := by decide +kernel
theorem dX7_canBe_102 : decode cX7_canBe 102 = .ok (.if_icmp .ne 7, 3) := by decide +kernel
theorem dX7_canBe_105 : decode cX7_canBe 105 = .ok (.iconst 1, 1) := by decide +kernel
theorem dX7_canBe_106 : decode cX7_canBe 106 = .ok (.goto 4, 3) := by decide +kernel
theorem dX7_canBe_109 : decode cX7_canBe 109 = .ok (.iconst 0, 1) := by decide +kernel
theorem dX7_canBe_110 : decode cX7_canBe 110 = .ok (.ireturn, 1) := by decide +kernel
theorem dX7_begin_0 : decode cX7_begin 0 = .ok (.aload_n 0, 1) := by decide +kernel
theorem dX7_begin_1 : decode cX7_begin 1 = .ok (.iconst 0, 1) := by decide +kernel
theorem dX7_begin_2 : decode cX7_begin 2 = .ok (.putfield 9, 3) := by decide +kernel
theorem dX7_begin_5 : decode cX7_begin 5 = .ok (.aload_n 0, 1) := by decide +kernel
theorem dX7_begin_6 : decode cX7_begin 6 = .ok (.bipush (-6), 2) := by decide +kernel
theorem dX7_begin_8 : decode cX7_begin 8 = .ok (.putfield 15, 3) := by decide +kernel
theorem dX7_begin_11 : decode cX7_begin 11 = .ok (.aload_n 0, 1) := by decide +kernel
theorem dX7_begin_12 : decode cX7_begin 12 = .ok (.bipush (-6), 2) := by decide +kernel
theorem dX7_begin_14 : decode cX7_begin 14 = .ok (.putfield 18, 3) := by decide +kernel
theorem dX7_begin_17 : decode cX7_begin 17 = .ok (.aload_n 0, 1) := by decide +kernel
theorem dX7_begin_18 : decode cX7_begin 18 = .ok (.iconst 0, 1) := by decide +kernel
theorem dX7_begin_19 : decode cX7_begin 19 = .ok (.putfield 21, 3) := by decide +kernel
theorem dX7_begin_22 : decode cX7_begin 22 = .ok (.aload_n 0, 1) := by decide +kernel
theorem dX7_begin_23 : decode cX7_begin 23 = .ok (.bipush (-6), 2) := by decide +kernel
theorem dX7_begin_25 : decode cX7_begin 25 = .ok (.putfield 24, 3) := by decide +kernel
theorem dX7_begin_28 : decode cX7_begin 28 = .ok (.aload_n 0, 1) := by decide +kernel
theorem dX7_begin_29 : decode cX7_begin 29 = .ok (.bipush (-6), 2) := by decide +kernel
theorem dX7_begin_31 : decode cX7_begin 31 = .ok (.putfield 27, 3) := by decide +kernel
theorem dX7_begin_34 : decode cX7_begin 34 = .ok (.return_, 1) := by decide +kernel
theorem dX7_runAct_0 : decode cX7_runAct 0 = .ok (.aload_n 1, 1) := by decide +kernel
theorem dX7_runAct_1 : decode cX7_runAct 1 = .ok (.iload_n 2, 1) := by decide +kernel
theorem dX7_runAct_2 : decode cX7_runAct 2 = .ok (.iload_n 3, 1) := by decide +kernel
theorem dX7_runAct_3 : decode cX7_runAct 3 = .ok (.iload 4, 2) := by decide +kernel
theorem dX7_runAct_5 : decode cX7_runAct 5 = .ok (.invokevirtual 66, 3) := by decide +kernel
theorem dX7_runAct_8 : decode cX7_runAct 8 = .ok (.istore 5, 2) := by decide +kernel
theorem dX7_runAct_10 : decode cX7_runAct 10 = .ok (.iload 5, 2) := by decide +kernel
theorem dX7_runAct_12 : decode cX7_runAct 12 = .ok (.ifCond .eq 18, 3) := by decide +kernel
theorem dX7_runAct_15 : decode cX7_runAct 15 = .ok (.aload_n 0, 1) := by decide +kernel
theorem dX7_runAct_16 : decode cX7_runAct 16 = .ok (.aload_n 0, 1) := by decide +kernel
theorem dX7_runAct_17 : decode cX7_runAct 17 = .ok (.getfield 9, 3) := by decide +kernel
theorem dX7_runAct_20 : decode cX7_runAct 20 = .ok (.putfield 15, 3) := by decide +kernel
theorem dX7_runAct_23 : decode cX7_runAct 23 = .ok (.aload_n 0, 1) := by decide +kernel
theorem dX7_runAct_24 : decode cX7_runAct 24 = .ok (.iload 5, 2) := by decide +kernel
theorem dX7_runAct_26 : decode cX7_runAct 26 = .ok (.putfield 18, 3) := by decide +kernel
theorem dX7_runAct_29 : decode cX7_runAct 29 = .ok (.return_, 1) := by decide +kernel
theorem dX7_runAct_30 : decode cX7_runAct 30 = .ok (.iload_n 2, 1) := by decide +kernel
theorem dX7_runAct_31 : decode cX7_runAct 31 = .ok (.ifCond .ne 23, 3) := by decide +kernel
theorem dX7_runAct_34 : decode cX7_runAct 34 = .ok (.aload_n 0, 1) := by decide +kernel
theorem dX7_runAct_35 : decode cX7_runAct 35 = .ok (.dup, 1) := by decide +kernel
theorem dX7_runAct_36 : decode cX7_runAct 36 = .ok (.getfield 21, 3) := by decide +kernel
theorem dX7_runAct_39 : decode cX7_runAct 39 = .ok (.aload_n 1, 1) := by decide +kernel
theorem dX7_runAct_40 : decode cX7_runAct 40 = .ok (.aload_n 1, 1) := by decide +kernel
theorem dX7_runAct_41 : decode cX7_runAct 41 = .ok (.iload_n 3, 1) := by decide +kernel
theorem dX7_runAct_42 : decode cX7_runAct 42 = .ok (.invokevirtual 70, 3) := by decide +kernel
theorem dX7_runAct_45 : decode cX7_runAct 45 = .ok (.iload 4, 2) := by decide +kernel
theorem dX7_runAct_47 : decode cX7_runAct 47 = .ok (.invokevirtual 73, 3) := by decide +kernel
theorem dX7_runAct_50 : decode cX7_runAct 50 = .ok (.iadd, 1) := by decide +kernel
theorem dX7_runAct_51 : decode cX7_runAct 51 = .ok (.putfield 21, 3) := by decide +kernel
theorem dX7_runAct_54 : decode cX7_runAct 54 = .ok (.aload_n 0, 1) := by decide +kernel
theorem dX7_runAct_55 : decode cX7_runAct 55 = .ok (.aload_n 1, 1) := by decide +kernel
theorem dX7_runAct_56 : decode cX7_runAct 56 = .ok (.iload_n 2, 1) := by decide +kernel
theorem dX7_runAct_57 : decode cX7_runAct 57 = .ok (.iload_n 3, 1) := by decide +kernel
theorem dX7_runAct_58 : decode cX7_runAct 58 = .ok (.iload 4, 2) := by decide +kernel
theorem dX7_runAct_60 : decode cX7_runAct 60 = .ok (.invokevirtual 76, 3) := by decide +kernel
theorem dX7_runAct_63 : decode cX7_runAct 63 = .ok (.invokevirtual 79, 3) := by decide +kernel
theorem dX7_runAct_66 : decode cX7_runAct 66 = .ok (.aload_n 1, 1) := by decide +kernel
theorem dX7_runAct_67 : decode cX7_runAct 67 = .ok (.iload_n 2, 1) := by decide +kernel
theorem dX7_runAct_68 : decode cX7_runAct 68 = .ok (.iload_n 3, 1) := by decide +kernel
theorem dX7_runAct_69 : decode cX7_runAct 69 = .ok (.iload 4, 2) := by decide +kernel
theorem dX7_runAct_71 : decode cX7_runAct 71 = .ok (.invokevirtual 83, 3) := by decide +kernel
theorem dX7_runAct_74 : decode cX7_runAct 74 = .ok (.aload_n 0, 1) := by decide +kernel
theorem dX7_runAct_75 : decode cX7_runAct 75 = .ok (.dup, 1) := by decide +kernel
theorem dX7_runAct_76 : decode cX7_runAct 76 = .ok (.getfield 9, 3) := by decide +kernel
theorem dX7_runAct_79 : decode cX7_runAct 79 = .ok (.iconst 1, 1) := by decide +kernel
theorem dX7_runAct_80 : decode cX7_runAct 80 = .ok (.iadd, 1) := by decide +kernel
theorem dX7_runAct_81 : decode cX7_runAct 81 = .ok (.putfield 9, 3) := by decide +kernel
theorem dX7_runAct_84 : decode cX7_runAct 84 = .ok (.return_, 1) := by decide +kernel
theorem dX7_noteGap_0 : decode cX7_noteGap 0 = .ok (.iload_n 1, 1) := by decide +kernel
theorem dX7_noteGap_1 : decode cX7_noteGap 1 = .ok (.bipush (-6), 2) := by decide +kernel
theorem dX7_noteGap_3 : decode cX7_noteGap 3 = .ok (.if_icmp .eq 25, 3) := by decide +kernel
theorem dX7_noteGap_6 : decode cX7_noteGap 6 = .ok (.aload_n 0, 1) := by decide +kernel
theorem dX7_noteGap_7 : decode cX7_noteGap 7 = .ok (.getfield 27, 3) := by decide +kernel
theorem dX7_noteGap_10 : decode cX7_noteGap 10 = .ok (.bipush (-6), 2) := by decide +kernel
theorem dX7_noteGap_12 : decode cX7_noteGap 12 = .ok (.if_icmp .ne 16, 3) := by decide +kernel
theorem dX7_noteGap_15 : decode cX7_noteGap 15 = .ok (.aload_n 0, 1) := by decide +kernel
theorem dX7_noteGap_16 : decode cX7_noteGap 16 = .ok (.iload_n 1, 1) := by decide +kernel
theorem dX7_noteGap_17 : decode cX7_noteGap 17 = .ok (.putfield 27, 3) := by decide +kernel
theorem dX7_noteGap_20 : decode cX7_noteGap 20 = .ok (.aload_n 0, 1) := by decide +kernel
theorem dX7_noteGap_21 : decode cX7_noteGap 21 = .ok (.aload_n 0, 1) := by decide +kernel
theorem dX7_noteGap_22 : decode cX7_noteGap 22 = .ok (.getfield 9, 3) := by decide +kernel
theorem dX7_noteGap_25 : decode cX7_noteGap 25 = .ok (.putfield 24, 3) := by decide +kernel
theorem dX7_noteGap_28 : decode cX7_noteGap 28 = .ok (.return_, 1) := by decide +kernel
theorem dX8_init_0 : decode cX8_init 0 = .ok (.aload_n 0, 1) := by decide +kernel
theorem dX8_init_1 : decode cX8_init 1 = .ok (.invokespecial 1, 3) := by decide +kernel
theorem dX8_init_4 : decode cX8_init 4 = .ok (.aload_n 0, 1) := by decide +kernel
theorem dX8_init_5 : decode cX8_init 5 = .ok (.new 7, 3) := by decide +kernel
theorem dX8_init_8 : decode cX8_init 8 = .ok (.dup, 1) := by decide +kernel
theorem dX8_init_9 : decode cX8_init 9 = .ok (.invokespecial 9, 3) := by decide +kernel
theorem dX8_init_12 : decode cX8_init 12 = .ok (.putfield 10, 3) := by decide +kernel
theorem dX8_init_15 : decode cX8_init 15 = .ok (.aload_n 0, 1) := by decide +kernel
theorem dX8_init_16 : decode cX8_init 16 = .ok (.new 16, 3) := by decide +kernel
theorem dX8_init_19 : decode cX8_init 19 = .ok (.dup, 1) := by decide +kernel
theorem dX8_init_20 : decode cX8_init 20 = .ok (.invokespecial 18, 3) := by decide +kernel
theorem dX8_init_23 : decode cX8_init 23 = .ok (.putfield 19, 3) := by decide +kernel
theorem dX8_init_26 : decode cX8_init 26 = .ok (.aload_n 0, 1) := by decide +kernel
theorem dX8_init_27 : decode cX8_init 27 = .ok (.new 23, 3) := by decide +kernel
theorem dX8_init_30 : decode cX8_init 30 = .ok (.dup, 1) := by decide +kernel
theorem dX8_init_31 : decode cX8_init 31 = .ok (.invokespecial 25, 3) := by decide +kernel
theorem dX8_init_34 : decode cX8_init 34 = .ok (.putfield 26, 3) := by decide +kernel
theorem dX8_init_37 : decode cX8_init 37 = .ok (.aload_n 0, 1) := by decide +kernel
theorem dX8_init_38 : decode cX8_init 38 = .ok (.iconst 0, 1) := by decide +kernel
theorem dX8_init_39 : decode cX8_init 39 = .ok (.putfield 30, 3) := by decide +kernel
theorem dX8_init_42 : decode cX8_init 42 = .ok (.return_, 1) := by decide +kernel
theorem dX8_copyFrom_0 : decode cX8_copyFrom 0 = .ok (.aload_n 0, 1) := by decide +kernel
theorem dX8_copyFrom_1 : decode cX8_copyFrom 1 = .ok (.getfield 10, 3) := by decide +kernel
theorem dX8_copyFrom_4 : decode cX8_copyFrom 4 = .ok (.aload_n 1, 1) := by decide +kernel
theorem dX8_copyFrom_5 : decode cX8_copyFrom 5 = .ok (.getfield 10, 3) := by decide +kernel
theorem dX8_copyFrom_8 : decode cX8_copyFrom 8 = .ok (.invokevirtual 34, 3) := by decide +kernel
theorem dX8_copyFrom_11 : decode cX8_copyFrom 11 = .ok (.aload_n 0, 1) := by decide +kernel
theorem dX8_copyFrom_12 : decode cX8_copyFrom 12 = .ok (.getfield 19, 3) := by decide +kernel
theorem dX8_copyFrom_15 : decode cX8_copyFrom 15 = .ok (.aload_n 1, 1) := by decide +kernel
theorem dX8_copyFrom_16 : decode cX8_copyFrom 16 = .ok (.getfield 19, 3) := by decide +kernel
theorem dX8_copyFrom_19 : decode cX8_copyFrom 19 = .ok (.invokevirtual 38, 3) := by decide +kernel
theorem dX8_copyFrom_22 : decode cX8_copyFrom 22 = .ok (.aload_n 0, 1) := by decide +kernel
theorem dX8_copyFrom_23 : decode cX8_copyFrom 23 = .ok (.getfield 26, 3) := by decide +kernel
theorem dX8_copyFrom_26 : decode cX8_copyFrom 26 = .ok (.aload_n 1, 1) := by decide +kernel
theorem dX8_copyFrom_27 : decode cX8_copyFrom 27 = .ok (.getfield 26, 3) := by decide +kernel
theorem dX8_copyFrom_30 : decode cX8_copyFrom 30 = .ok (.invokevirtual 41, 3) := by decide +kernel
theorem dX8_copyFrom_33 : decode cX8_copyFrom 33 = .ok (.return_, 1) := by decide +kernel
theorem dX9_init_0 : decode cX9_init 0 = .ok (.aload_n 0, 1) := by decide +kernel
theorem dX9_init_1 : decode cX9_init 1 = .ok (.invokespecial 3, 3) := by decide +kernel
theorem dX9_init_4 : decode cX9_init 4 = .ok (.aload_n 0, 1) := by decide +kernel
theorem dX9_init_5 : decode cX9_init 5 = .ok (.new 9, 3) := by decide +kernel
theorem dX9_init_8 : decode cX9_init 8 = .ok (.dup, 1) := by decide +kernel
theorem dX9_init_9 : decode cX9_init 9 = .ok (.invokespecial 11, 3) := by decide +kernel
theorem dX9_init_12 : decode cX9_init 12 = .ok (.putfield 12, 3) := by decide +kernel
theorem dX9_init_15 : decode cX9_init 15 = .ok (.aload_n 0, 1) := by decide +kernel
theorem dX9_init_16 : decode cX9_init 16 = .ok (.new 9, 3) := by decide +kernel
theorem dX9_init_19 : decode cX9_init 19 = .ok (.dup, 1) := by decide +kernel
theorem dX9_init_20 : decode cX9_init 20 = .ok (.invokespecial 11, 3) := by decide +kernel
theorem dX9_init_23 : decode cX9_init 23 = .ok (.putfield 16, 3) := by decide +kernel
theorem dX9_init_26 : decode cX9_init 26 = .ok (.aload_n 0, 1) := by decide +kernel
theorem dX9_init_27 : decode cX9_init 27 = .ok (.new 9, 3) := by decide +kernel
theorem dX9_init_30 : decode cX9_init 30 = .ok (.dup, 1) := by decide +kernel
theorem dX9_init_31 : decode cX9_init 31 = .ok (.invokespecial 11, 3) := by decide +kernel
theorem dX9_init_34 : decode cX9_init 34 = .ok (.putfield 19, 3) := by decide +kernel
theorem dX9_init_37 : decode cX9_init 37 = .ok (.aload_n 0, 1) := by decide +kernel
theorem dX9_init_38 : decode cX9_init 38 = .ok (.new 22, 3) := by decide +kernel
theorem dX9_init_41 : decode cX9_init 41 = .ok (.dup, 1) := by decide +kernel
theorem dX9_init_42 : decode cX9_init 42 = .ok (.invokespecial 24, 3) := by decide +kernel
theorem dX9_init_45 : decode cX9_init 45 = .ok (.putfield 25, 3) := by decide +kernel
theorem dX9_init_48 : decode cX9_init 48 = .ok (.aload_n 0, 1) := by decide +kernel
theorem dX9_init_49 : decode cX9_init 49 = .ok (.new 29, 3) := by decide +kernel
theorem dX9_init_52 : decode cX9_init 52 = .ok (.dup, 1) := by decide +kernel
theorem dX9_init_53 : decode cX9_init 53 = .ok (.invokespecial 31, 3) := by decide +kernel
theorem dX9_init_56 : decode cX9_init 56 = .ok (.putfield 32, 3) := by decide +kernel
theorem dX9_init_59 : decode cX9_init 59 = .ok (.aload_n 0, 1) := by decide +kernel
theorem dX9_init_60 : decode cX9_init 60 = .ok (.new 36, 3) := by decide +kernel
theorem dX9_init_63 : decode cX9_init 63 = .ok (.dup, 1) := by decide +kernel
theorem dX9_init_64 : decode cX9_init 64 = .ok (.invokespecial 38, 3) := by decide +kernel
theorem dX9_init_67 : decode cX9_init 67 = .ok (.putfield 39, 3) := by decide +kernel
theorem dX9_init_70 : decode cX9_init 70 = .ok (.aload_n 0, 1) := by decide +kernel
theorem dX9_init_71 : decode cX9_init 71 = .ok (.new 43, 3) := by decide +kernel
theorem dX9_init_74 : decode cX9_init 74 = .ok (.dup, 1) := by decide +kernel
theorem dX9_init_75 : decode cX9_init 75 = .ok (.invokespecial 45, 3) := by decide +kernel
theorem dX9_init_78 : decode cX9_init 78 = .ok (.putfield 46, 3) := by decide +kernel
theorem dX9_init_81 : decode cX9_init 81 = .ok (.aload_n 0, 1) := by decide +kernel
theorem dX9_init_82 : decode cX9_init 82 = .ok (.new 50, 3) := by decide +kernel
theorem dX9_init_85 : decode cX9_init 85 = .ok (.dup, 1) := by decide +kernel
theorem dX9_init_86 : decode cX9_init 86 = .ok (.invokespecial 52, 3) := by decide +kernel
theorem dX9_init_89 : decode cX9_init 89 = .ok (.putfield 53, 3) := by decide +kernel
theorem dX9_init_92 : decode cX9_init 92 = .ok (.return_, 1) := by decide +kernel
theorem dX9_pale_0 : decode cX9_pale 0 = .ok (.iload_n 1, 1) := by decide +kernel
theorem dX9_pale_1 : decode cX9_pale 1 = .ok (.iload_n 2, 1) := by decide +kernel
theorem dX9_pale_2 : decode cX9_pale 2 = .ok (.invokestatic 57, 3) := by decide +kernel
theorem dX9_pale_5 : decode cX9_pale 5 = .ok (.ifCond .ne 5, 3) := by decide +kernel
theorem dX9_pale_8 : decode cX9_pale 8 = .ok (.iconst (-1), 1) := by decide +kernel
theorem dX9_pale_9 : decode cX9_pale 9 = .ok (.ireturn, 1) := by decide +kernel
theorem dX9_pale_10 : decode cX9_pale 10 = .ok (.iload_n 3, 1) := by decide +kernel
theorem dX9_pale_11 : decode cX9_pale 11 = .ok (.iconst (-1), 1) := by decide +kernel
theorem dX9_pale_12 : decode cX9_pale 12 = .ok (.if_icmp .lt 9, 3) := by decide +kernel
theorem dX9_pale_15 : decode cX9_pale 15 = .ok (.iload_n 3, 1) := by decide +kernel
theorem dX9_pale_16 : decode cX9_pale 16 = .ok (.bipush 9, 2) := by decide +kernel
theorem dX9_pale_18 : decode cX9_pale 18 = .ok (.if_icmp .le 6, 3) := by decide +kernel
theorem dX9_pale_21 : decode cX9_pale 21 = .ok (.bipush (-2), 2) := by decide +kernel
theorem dX9_pale_23 : decode cX9_pale 23 = .ok (.ireturn, 1) := by decide +kernel
theorem dX9_pale_24 : decode cX9_pale 24 = .ok (.aload_n 0, 1) := by decide +kernel
theorem dX9_pale_25 : decode cX9_pale 25 = .ok (.getfield 12, 3) := by decide +kernel
theorem dX9_pale_28 : decode cX9_pale 28 = .ok (.getfield 61, 3) := by decide +kernel
theorem dX9_pale_31 : decode cX9_pale 31 = .ok (.iload_n 1, 1) := by decide +kernel
theorem dX9_pale_32 : decode cX9_pale 32 = .ok (.iload_n 2, 1) := by decide +kernel
theorem dX9_pale_33 : decode cX9_pale 33 = .ok (.iload_n 3, 1) := by decide +kernel
theorem dX9_pale_34 : decode cX9_pale 34 = .ok (.ifCond .ge 8, 3) := by decide +kernel
theorem dX9_pale_37 : decode cX9_pale 37 = .ok (.bipush (-6), 2) := by decide +kernel
theorem dX9_pale_39 : decode cX9_pale 39 = .ok (.goto 4, 3) := by decide +kernel
theorem dX9_pale_42 : decode cX9_pale 42 = .ok (.iload_n 3, 1) := by decide +kernel
theorem dX9_pale_43 : decode cX9_pale 43 = .ok (.invokevirtual 64, 3) := by decide +kernel
theorem dX9_pale_46 : decode cX9_pale 46 = .ok (.aload_n 0, 1) := by decide +kernel
theorem dX9_pale_47 : decode cX9_pale 47 = .ok (.getfield 12, 3) := by decide +kernel
theorem dX9_pale_50 : decode cX9_pale 50 = .ok (.getfield 61, 3) := by decide +kernel
theorem dX9_pale_53 : decode cX9_pale 53 = .ok (.invokevirtual 68, 3) := by decide +kernel
theorem dX9_pale_56 : decode cX9_pale 56 = .ok (.ireturn, 1) := by decide +kernel
theorem dX9_road_0 : decode cX9_road 0 = .ok (.iload_n 1, 1) := by decide +kernel
theorem dX9_road_1 : decode cX9_road 1 = .ok (.iload_n 2, 1) := by decide +kernel
theorem dX9_road_2 : decode cX9_road 2 = .ok (.invokestatic 57, 3) := by decide +kernel
theorem dX9_road_5 : decode cX9_road 5 = .ok (.ifCond .ne 5, 3) := by decide +kernel
theorem dX9_road_8 : decode cX9_road 8 = .ok (.iconst (-1), 1) := by decide +kernel
theorem dX9_road_9 : decode cX9_road 9 = .ok (.ireturn, 1) := by decide +kernel
theorem dX9_road_10 : decode cX9_road 10 = .ok (.iload_n 3, 1) := by decide +kernel
theorem dX9_road_11 : decode cX9_road 11 = .ok (.ifCond .lt 9, 3) := by decide +kernel
theorem dX9_road_14 : decode cX9_road 14 = .ok (.iload_n 3, 1) := by decide +kernel
theorem dX9_road_15 : decode cX9_road 15 = .ok (.bipush 9, 2) := by decide +kernel
theorem dX9_road_17 : decode cX9_road 17 = .ok (.if_icmp .le 6, 3) := by decide +kernel
theorem dX9_road_20 : decode cX9_road 20 = .ok (.bipush (-2), 2) := by decide +kernel
theorem dX9_road_22 : decode cX9_road 22 = .ok (.ireturn, 1) := by decide +kernel
theorem dX9_road_23 : decode cX9_road 23 = .ok (.aload_n 0, 1) := by decide +kernel
theorem dX9_road_24 : decode cX9_road 24 = .ok (.getfield 12, 3) := by decide +kernel
theorem dX9_road_27 : decode cX9_road 27 = .ok (.getfield 61, 3) := by decide +kernel
theorem dX9_road_30 : decode cX9_road 30 = .ok (.iload_n 1, 1) := by decide +kernel
theorem dX9_road_31 : decode cX9_road 31 = .ok (.iload_n 2, 1) := by decide +kernel
theorem dX9_road_32 : decode cX9_road 32 = .ok (.invokevirtual 72, 3) := by decide +kernel
theorem dX9_road_35 : decode cX9_road 35 = .ok (.istore 4, 2) := by decide +kernel
theorem dX9_road_37 : decode cX9_road 37 = .ok (.aload_n 0, 1) := by decide +kernel
theorem dX9_road_38 : decode cX9_road 38 = .ok (.getfield 12, 3) := by decide +kernel
theorem dX9_road_41 : decode cX9_road 41 = .ok (.getfield 61, 3) := by decide +kernel
theorem dX9_road_44 : decode cX9_road 44 = .ok (.iload_n 1, 1) := by decide +kernel
theorem dX9_road_45 : decode cX9_road 45 = .ok (.iload_n 2, 1) := by decide +kernel
theorem dX9_road_46 : decode cX9_road 46 = .ok (.iload_n 3, 1) := by decide +kernel
theorem dX9_road_47 : decode cX9_road 47 = .ok (.invokevirtual 76, 3) := by decide +kernel
theorem dX9_road_50 : decode cX9_road 50 = .ok (.iload 4, 2) := by decide +kernel
theorem dX9_road_52 : decode cX9_road 52 = .ok (.ireturn, 1) := by decide +kernel
theorem dX9_farm_0 : decode cX9_farm 0 = .ok (.iload_n 1, 1) := by decide +kernel
theorem dX9_farm_1 : decode cX9_farm 1 = .ok (.invokestatic 79, 3) := by decide +kernel
theorem dX9_farm_4 : decode cX9_farm 4 = .ok (.ifCond .eq 10, 3) := by decide +kernel
theorem dX9_farm_7 : decode cX9_farm 7 = .ok (.iload_n 3, 1) := by decide +kernel
theorem dX9_farm_8 : decode cX9_farm 8 = .ok (.invokestatic 79, 3) := by decide +kernel
theorem dX9_farm_11 : decode cX9_farm 11 = .ok (.ifCond .ne 5, 3) := by decide +kernel
theorem dX9_farm_14 : decode cX9_farm 14 = .ok (.iconst (-1), 1) := by decide +kernel
theorem dX9_farm_15 : decode cX9_farm 15 = .ok (.ireturn, 1) := by decide +kernel
theorem dX9_farm_16 : decode cX9_farm 16 = .ok (.iload_n 2, 1) := by decide +kernel
theorem dX9_farm_17 : decode cX9_farm 17 = .ok (.ifCond .lt 9, 3) := by decide +kernel
theorem dX9_farm_20 : decode cX9_farm 20 = .ok (.iload_n 2, 1) := by decide +kernel
theorem dX9_farm_21 : decode cX9_farm 21 = .ok (.bipush 99, 2) := by decide +kernel
theorem dX9_farm_23 : decode cX9_farm 23 = .ok (.if_icmp .le 6, 3) := by decide +kernel
theorem dX9_farm_26 : decode cX9_farm 26 = .ok (.bipush (-2), 2) := by decide +kernel
theorem dX9_farm_28 : decode cX9_farm 28 = .ok (.ireturn, 1) := by decide +kernel
theorem dX9_farm_29 : decode cX9_farm 29 = .ok (.aload_n 0, 1) := by decide +kernel
theorem dX9_farm_30 : decode cX9_farm 30 = .ok (.getfield 12, 3) := by decide +kernel
theorem dX9_farm_33 : decode cX9_farm 33 = .ok (.getfield 61, 3) := by decide +kernel
theorem dX9_farm_36 : decode cX9_farm 36 = .ok (.iload_n 1, 1) := by decide +kernel
theorem dX9_farm_37 : decode cX9_farm 37 = .ok (.invokevirtual 83, 3) := by decide +kernel
theorem dX9_farm_40 : decode cX9_farm 40 = .ok (.istore 4, 2) := by decide +kernel
theorem dX9_farm_42 : decode cX9_farm 42 = .ok (.aload_n 0, 1) := by decide +kernel
theorem dX9_farm_43 : decode cX9_farm 43 = .ok (.getfield 12, 3) := by decide +kernel
theorem dX9_farm_46 : decode cX9_farm 46 = .ok (.getfield 61, 3) := by decide +kernel
theorem dX9_farm_49 : decode cX9_farm 49 = .ok (.iload_n 1, 1) := by decide +kernel
theorem dX9_farm_50 : decode cX9_farm 50 = .ok (.iload_n 2, 1) := by decide +kernel
theorem dX9_farm_51 : decode cX9_farm 51 = .ok (.iload_n 3, 1) := by decide +kernel
theorem dX9_farm_52 : decode cX9_farm 52 = .ok (.invokevirtual 87, 3) := by decide +kernel
theorem dX9_farm_55 : decode cX9_farm 55 = .ok (.iload 4, 2) := by decide +kernel
theorem dX9_farm_57 : decode cX9_farm 57 = .ok (.ireturn, 1) := by decide +kernel
theorem dX9_likes_0 : decode cX9_likes 0 = .ok (.iload_n 1, 1) := by decide +kernel
theorem dX9_likes_1 : decode cX9_likes 1 = .ok (.iload_n 2, 1) := by decide +kernel
theorem dX9_likes_2 : decode cX9_likes 2 = .ok (.invokestatic 90, 3) := by decide +kernel
theorem dX9_likes_5 : decode cX9_likes 5 = .ok (.ifCond .ne 5, 3) := by decide +kernel
theorem dX9_likes_8 : decode cX9_likes 8 = .ok (.iconst (-1), 1) := by decide +kernel
theorem dX9_likes_9 : decode cX9_likes 9 = .ok (.ireturn, 1) := by decide +kernel
theorem dX9_likes_10 : decode cX9_likes 10 = .ok (.iload_n 3, 1) := by decide +kernel
theorem dX9_likes_11 : decode cX9_likes 11 = .ok (.invokestatic 93, 3) := by decide +kernel
theorem dX9_likes_14 : decode cX9_likes 14 = .ok (.ifCond .ne 6, 3) := by decide +kernel
theorem dX9_likes_17 : decode cX9_likes 17 = .ok (.bipush (-2), 2) := by decide +kernel
theorem dX9_likes_19 : decode cX9_likes 19 = .ok (.ireturn, 1) := by decide +kernel
theorem dX9_likes_20 : decode cX9_likes 20 = .ok (.aload_n 0, 1) := by decide +kernel
theorem dX9_likes_21 : decode cX9_likes 21 = .ok (.getfield 12, 3) := by decide +kernel
theorem dX9_likes_24 : decode cX9_likes 24 = .ok (.getfield 98, 3) := by decide +kernel
theorem dX9_likes_27 : decode cX9_likes 27 = .ok (.iload_n 1, 1) := by decide +kernel
theorem dX9_likes_28 : decode cX9_likes 28 = .ok (.iload_n 2, 1) := by decide +kernel
theorem dX9_likes_29 : decode cX9_likes 29 = .ok (.invokevirtual 102, 3) := by decide +kernel
theorem dX9_likes_32 : decode cX9_likes 32 = .ok (.istore 4, 2) := by decide +kernel
theorem dX9_likes_34 : decode cX9_likes 34 = .ok (.aload_n 0, 1) := by decide +kernel
theorem dX9_likes_35 : decode cX9_likes 35 = .ok (.getfield 12, 3) := by decide +kernel
theorem dX9_likes_38 : decode cX9_likes 38 = .ok (.getfield 98, 3) := by decide +kernel
theorem dX9_likes_41 : decode cX9_likes 41 = .ok (.iload_n 1, 1) := by decide +kernel
theorem dX9_likes_42 : decode cX9_likes 42 = .ok (.iload_n 2, 1) := by decide +kernel
theorem dX9_likes_43 : decode cX9_likes 43 = .ok (.iload_n 3, 1) := by decide +kernel
theorem dX9_likes_44 : decode cX9_likes 44 = .ok (.invokevirtual 105, 3) := by decide +kernel
theorem dX9_likes_47 : decode cX9_likes 47 = .ok (.iload 4, 2) := by decide +kernel
theorem dX9_likes_49 : decode cX9_likes 49 = .ok (.ireturn, 1) := by decide +kernel
theorem dX9_say_0 : decode cX9_say 0 = .ok (.iload_n 1, 1) := by decide +kernel
theorem dX9_say_1 : decode cX9_say 1 = .ok (.bipush 33, 2) := by decide +kernel
theorem dX9_say_3 : decode cX9_say 3 = .ok (.if_icmp .lt 9, 3) := by decide +kernel
theorem dX9_say_6 : decode cX9_say 6 = .ok (.iload_n 1, 1) := by decide +kernel
theorem dX9_say_7 : decode cX9_say 7 = .ok (.bipush 126, 2) := by decide +kernel
theorem dX9_say_9 : decode cX9_say 9 = .ok (.if_icmp .le 6, 3) := by decide +kernel
theorem dX9_say_12 : decode cX9_say 12 = .ok (.bipush (-2), 2) := by decide +kernel
theorem dX9_say_14 : decode cX9_say 14 = .ok (.ireturn, 1) := by decide +kernel
theorem dX9_say_15 : decode cX9_say 15 = .ok (.aload_n 0, 1) := by decide +kernel
theorem dX9_say_16 : decode cX9_say 16 = .ok (.getfield 32, 3) := by decide +kernel
theorem dX9_say_19 : decode cX9_say 19 = .ok (.iload_n 1, 1) := by decide +kernel
theorem dX9_say_20 : decode cX9_say 20 = .ok (.invokevirtual 108, 3) := by decide +kernel
theorem dX9_say_23 : decode cX9_say 23 = .ok (.ifCond .eq 13, 3) := by decide +kernel
theorem dX9_say_26 : decode cX9_say 26 = .ok (.aload_n 0, 1) := by decide +kernel
theorem dX9_say_27 : decode cX9_say 27 = .ok (.getfield 32, 3) := by decide +kernel
theorem dX9_say_30 : decode cX9_say 30 = .ok (.invokevirtual 111, 3) := by decide +kernel
theorem dX9_say_33 : decode cX9_say 33 = .ok (.goto 5, 3) := by decide +kernel
theorem dX9_say_36 : decode cX9_say 36 = .ok (.bipush (-4), 2) := by decide +kernel
theorem dX9_say_38 : decode cX9_say 38 = .ok (.ireturn, 1) := by decide +kernel
theorem dX9_wipe_0 : decode cX9_wipe 0 = .ok (.aload_n 0, 1) := by decide +kernel
theorem dX9_wipe_1 : decode cX9_wipe 1 = .ok (.getfield 32, 3) := by decide +kernel
theorem dX9_wipe_4 : decode cX9_wipe 4 = .ok (.invokevirtual 111, 3) := by decide +kernel
theorem dX9_wipe_7 : decode cX9_wipe 7 = .ok (.istore_n 1, 1) := by decide +kernel
theorem dX9_wipe_8 : decode cX9_wipe 8 = .ok (.aload_n 0, 1) := by decide +kernel
theorem dX9_wipe_9 : decode cX9_wipe 9 = .ok (.getfield 32, 3) := by decide +kernel
theorem dX9_wipe_12 : decode cX9_wipe 12 = .ok (.invokevirtual 114, 3) := by decide +kernel
theorem dX9_wipe_15 : decode cX9_wipe 15 = .ok (.iload_n 1, 1) := by decide +kernel
theorem dX9_wipe_16 : decode cX9_wipe 16 = .ok (.ireturn, 1) := by decide +kernel
theorem dX9_fault_0 : decode cX9_fault 0 = .ok (.aload_n 0, 1) := by decide +kernel
theorem dX9_fault_1 : decode cX9_fault 1 = .ok (.getfield 32, 3) := by decide +kernel
theorem dX9_fault_4 : decode cX9_fault 4 = .ok (.invokevirtual 117, 3) := by decide +kernel
theorem dX9_fault_7 : decode cX9_fault 7 = .ok (.ireturn, 1) := by decide +kernel
theorem dX9_judge_0 : decode cX9_judge 0 = .ok (.iload_n 1, 1) := by decide +kernel
theorem dX9_judge_1 : decode cX9_judge 1 = .ok (.invokestatic 120, 3) := by decide +kernel
theorem dX9_judge_4 : decode cX9_judge 4 = .ok (.ifCond .ne 6, 3) := by decide +kernel
theorem dX9_judge_7 : decode cX9_judge 7 = .ok (.bipush (-2), 2) := by decide +kernel
theorem dX9_judge_9 : decode cX9_judge 9 = .ok (.ireturn, 1) := by decide +kernel
theorem dX9_judge_10 : decode cX9_judge 10 = .ok (.aload_n 0, 1) := by decide +kernel
theorem dX9_judge_11 : decode cX9_judge 11 = .ok (.getfield 32, 3) := by decide +kernel
theorem dX9_judge_14 : decode cX9_judge 14 = .ok (.invokevirtual 117, 3) := by decide +kernel
theorem dX9_judge_17 : decode cX9_judge 17 = .ok (.bipush (-6), 2) := by decide +kernel
theorem dX9_judge_19 : decode cX9_judge 19 = .ok (.if_icmp .eq 6, 3) := by decide +kernel
theorem dX9_judge_22 : decode cX9_judge 22 = .ok (.bipush (-5), 2) := by decide +kernel
theorem dX9_judge_24 : decode cX9_judge 24 = .ok (.ireturn, 1) := by decide +kernel
theorem dX9_judge_25 : decode cX9_judge 25 = .ok (.aload_n 0, 1) := by decide +kernel
theorem dX9_judge_26 : decode cX9_judge 26 = .ok (.getfield 39, 3) := by decide +kernel
theorem dX9_judge_29 : decode cX9_judge 29 = .ok (.aload_n 0, 1) := by decide +kernel
theorem dX9_judge_30 : decode cX9_judge 30 = .ok (.getfield 32, 3) := by decide +kernel
theorem dX9_judge_33 : decode cX9_judge 33 = .ok (.aload_n 0, 1) := by decide +kernel
theorem dX9_judge_34 : decode cX9_judge 34 = .ok (.getfield 12, 3) := by decide +kernel
theorem dX9_judge_37 : decode cX9_judge 37 = .ok (.getfield 61, 3) := by decide +kernel
theorem dX9_judge_40 : decode cX9_judge 40 = .ok (.aload_n 0, 1) := by decide +kernel
theorem dX9_judge_41 : decode cX9_judge 41 = .ok (.getfield 25, 3) := by decide +kernel
theorem dX9_judge_44 : decode cX9_judge 44 = .ok (.invokevirtual 123, 3) := by decide +kernel
theorem dX9_judge_47 : decode cX9_judge 47 = .ok (.pop, 1) := by decide +kernel
theorem dX9_judge_48 : decode cX9_judge 48 = .ok (.iload_n 1, 1) := by decide +kernel
theorem dX9_judge_49 : decode cX9_judge 49 = .ok (.ifCond .ne 13, 3) := by decide +kernel
theorem dX9_judge_52 : decode cX9_judge 52 = .ok (.aload_n 0, 1) := by decide +kernel
theorem dX9_judge_53 : decode cX9_judge 53 = .ok (.getfield 39, 3) := by decide +kernel
theorem dX9_judge_56 : decode cX9_judge 56 = .ok (.getfield 127, 3) := by decide +kernel
theorem dX9_judge_59 : decode cX9_judge 59 = .ok (.goto 10, 3) := by decide +kernel
theorem dX9_judge_62 : decode cX9_judge 62 = .ok (.aload_n 0, 1) := by decide +kernel
theorem dX9_judge_63 : decode cX9_judge 63 = .ok (.getfield 39, 3) := by decide +kernel
theorem dX9_judge_66 : decode cX9_judge 66 = .ok (.getfield 131, 3) := by decide +kernel
theorem dX9_judge_69 : decode cX9_judge 69 = .ok (.ireturn, 1) := by decide +kernel
theorem dX9_done_0 : decode cX9_done 0 = .ok (.aload_n 0, 1) := by decide +kernel
theorem dX9_done_1 : decode cX9_done 1 = .ok (.getfield 39, 3) := by decide +kernel
theorem dX9_done_4 : decode cX9_done 4 = .ok (.aload_n 0, 1) := by decide +kernel
theorem dX9_done_5 : decode cX9_done 5 = .ok (.getfield 32, 3) := by decide +kernel
theorem dX9_done_8 : decode cX9_done 8 = .ok (.aload_n 0, 1) := by decide +kernel
theorem dX9_done_9 : decode cX9_done 9 = .ok (.getfield 12, 3) := by decide +kernel
theorem dX9_done_12 : decode cX9_done 12 = .ok (.getfield 61, 3) := by decide +kernel
theorem dX9_done_15 : decode cX9_done 15 = .ok (.aload_n 0, 1) := by decide +kernel
theorem dX9_done_16 : decode cX9_done 16 = .ok (.getfield 25, 3) := by decide +kernel
theorem dX9_done_19 : decode cX9_done 19 = .ok (.invokevirtual 123, 3) := by decide +kernel
theorem dX9_done_22 : decode cX9_done 22 = .ok (.ifCond .ne 6, 3) := by decide +kernel
theorem dX9_done_25 : decode cX9_done 25 = .ok (.bipush (-5), 2) := by decide +kernel
theorem dX9_done_27 : decode cX9_done 27 = .ok (.ireturn, 1) := by decide +kernel
theorem dX9_done_28 : decode cX9_done 28 = .ok (.aload_n 0, 1) := by decide +kernel
theorem dX9_done_29 : decode cX9_done 29 = .ok (.getfield 12, 3) := by decide +kernel
theorem dX9_done_32 : decode cX9_done 32 = .ok (.getfield 61, 3) := by decide +kernel
theorem dX9_done_35 : decode cX9_done 35 = .ok (.aload_n 0, 1) := by decide +kernel
theorem dX9_done_36 : decode cX9_done 36 = .ok (.getfield 25, 3) := by decide +kernel
theorem dX9_done_39 : decode cX9_done 39 = .ok (.invokevirtual 134, 3) := by decide +kernel
theorem dX9_done_42 : decode cX9_done 42 = .ok (.aload_n 0, 1) := by decide +kernel
theorem dX9_done_43 : decode cX9_done 43 = .ok (.getfield 32, 3) := by decide +kernel
theorem dX9_done_46 : decode cX9_done 46 = .ok (.invokevirtual 114, 3) := by decide +kernel
theorem dX9_done_49 : decode cX9_done 49 = .ok (.aload_n 0, 1) := by decide +kernel
theorem dX9_done_50 : decode cX9_done 50 = .ok (.getfield 39, 3) := by decide +kernel
theorem dX9_done_53 : decode cX9_done 53 = .ok (.getfield 138, 3) := by decide +kernel
theorem dX9_done_56 : decode cX9_done 56 = .ok (.ireturn, 1) := by decide +kernel
theorem dX9_behind_0 : decode cX9_behind 0 = .ok (.iload_n 1, 1) := by decide +kernel
theorem dX9_behind_1 : decode cX9_behind 1 = .ok (.iload_n 2, 1) := by decide +kernel
theorem dX9_behind_2 : decode cX9_behind 2 = .ok (.invokestatic 57, 3) := by decide +kernel
theorem dX9_behind_5 : decode cX9_behind 5 = .ok (.ifCond .ne 5, 3) := by decide +kernel
theorem dX9_behind_8 : decode cX9_behind 8 = .ok (.iconst (-1), 1) := by decide +kernel
theorem dX9_behind_9 : decode cX9_behind 9 = .ok (.ireturn, 1) := by decide +kernel
theorem dX9_behind_10 : decode cX9_behind 10 = .ok (.aload_n 0, 1) := by decide +kernel
theorem dX9_behind_11 : decode cX9_behind 11 = .ok (.getfield 39, 3) := by decide +kernel
theorem dX9_behind_14 : decode cX9_behind 14 = .ok (.aload_n 0, 1) := by decide +kernel
theorem dX9_behind_15 : decode cX9_behind 15 = .ok (.getfield 32, 3) := by decide +kernel
theorem dX9_behind_18 : decode cX9_behind 18 = .ok (.aload_n 0, 1) := by decide +kernel
theorem dX9_behind_19 : decode cX9_behind 19 = .ok (.getfield 12, 3) := by decide +kernel
theorem dX9_behind_22 : decode cX9_behind 22 = .ok (.getfield 61, 3) := by decide +kernel
theorem dX9_behind_25 : decode cX9_behind 25 = .ok (.aload_n 0, 1) := by decide +kernel
theorem dX9_behind_26 : decode cX9_behind 26 = .ok (.getfield 25, 3) := by decide +kernel
theorem dX9_behind_29 : decode cX9_behind 29 = .ok (.invokevirtual 123, 3) := by decide +kernel
theorem dX9_behind_32 : decode cX9_behind 32 = .ok (.ifCond .eq 15, 3) := by decide +kernel
theorem dX9_behind_35 : decode cX9_behind 35 = .ok (.aload_n 0, 1) := by decide +kernel
theorem dX9_behind_36 : decode cX9_behind 36 = .ok (.getfield 25, 3) := by decide +kernel
theorem dX9_behind_39 : decode cX9_behind 39 = .ok (.iload_n 1, 1) := by decide +kernel
theorem dX9_behind_40 : decode cX9_behind 40 = .ok (.iload_n 2, 1) := by decide +kernel
theorem dX9_behind_41 : decode cX9_behind 41 = .ok (.invokevirtual 141, 3) := by decide +kernel
theorem dX9_behind_44 : decode cX9_behind 44 = .ok (.goto 5, 3) := by decide +kernel
theorem dX9_behind_47 : decode cX9_behind 47 = .ok (.bipush (-5), 2) := by decide +kernel
theorem dX9_behind_49 : decode cX9_behind 49 = .ok (.ireturn, 1) := by decide +kernel
theorem dX9_goes_0 : decode cX9_goes 0 = .ok (.iload_n 1, 1) := by decide +kernel
theorem dX9_goes_1 : decode cX9_goes 1 = .ok (.invokestatic 79, 3) := by decide +kernel
theorem dX9_goes_4 : decode cX9_goes 4 = .ok (.ifCond .ne 5, 3) := by decide +kernel
theorem dX9_goes_7 : decode cX9_goes 7 = .ok (.iconst (-1), 1) := by decide +kernel
theorem dX9_goes_8 : decode cX9_goes 8 = .ok (.ireturn, 1) := by decide +kernel
theorem dX9_goes_9 : decode cX9_goes 9 = .ok (.iload_n 2, 1) := by decide +kernel
theorem dX9_goes_10 : decode cX9_goes 10 = .ok (.invokestatic 120, 3) := by decide +kernel
theorem dX9_goes_13 : decode cX9_goes 13 = .ok (.ifCond .ne 6, 3) := by decide +kernel
theorem dX9_goes_16 : decode cX9_goes 16 = .ok (.bipush (-2), 2) := by decide +kernel
theorem dX9_goes_18 : decode cX9_goes 18 = .ok (.ireturn, 1) := by decide +kernel
theorem dX9_goes_19 : decode cX9_goes 19 = .ok (.aload_n 0, 1) := by decide +kernel
theorem dX9_goes_20 : decode cX9_goes 20 = .ok (.getfield 39, 3) := by decide +kernel
theorem dX9_goes_23 : decode cX9_goes 23 = .ok (.aload_n 0, 1) := by decide +kernel
theorem dX9_goes_24 : decode cX9_goes 24 = .ok (.getfield 32, 3) := by decide +kernel
theorem dX9_goes_27 : decode cX9_goes 27 = .ok (.aload_n 0, 1) := by decide +kernel
theorem dX9_goes_28 : decode cX9_goes 28 = .ok (.getfield 12, 3) := by decide +kernel
theorem dX9_goes_31 : decode cX9_goes 31 = .ok (.getfield 61, 3) := by decide +kernel
theorem dX9_goes_34 : decode cX9_goes 34 = .ok (.aload_n 0, 1) := by decide +kernel
theorem dX9_goes_35 : decode cX9_goes 35 = .ok (.getfield 25, 3) := by decide +kernel
theorem dX9_goes_38 : decode cX9_goes 38 = .ok (.invokevirtual 123, 3) := by decide +kernel
theorem dX9_goes_41 : decode cX9_goes 41 = .ok (.ifCond .ne 6, 3) := by decide +kernel
theorem dX9_goes_44 : decode cX9_goes 44 = .ok (.bipush (-5), 2) := by decide +kernel
theorem dX9_goes_46 : decode cX9_goes 46 = .ok (.ireturn, 1) := by decide +kernel
theorem dX9_goes_47 : decode cX9_goes 47 = .ok (.iload_n 2, 1) := by decide +kernel
theorem dX9_goes_48 : decode cX9_goes 48 = .ok (.ifCond .ne 14, 3) := by decide +kernel
theorem dX9_goes_51 : decode cX9_goes 51 = .ok (.aload_n 0, 1) := by decide +kernel
theorem dX9_goes_52 : decode cX9_goes 52 = .ok (.getfield 25, 3) := by decide +kernel
theorem dX9_goes_55 : decode cX9_goes 55 = .ok (.iload_n 1, 1) := by decide +kernel
theorem dX9_goes_56 : decode cX9_goes 56 = .ok (.invokevirtual 83, 3) := by decide +kernel
theorem dX9_goes_59 : decode cX9_goes 59 = .ok (.goto 11, 3) := by decide +kernel
theorem dX9_goes_62 : decode cX9_goes 62 = .ok (.aload_n 0, 1) := by decide +kernel
theorem dX9_goes_63 : decode cX9_goes 63 = .ok (.getfield 25, 3) := by decide +kernel
theorem dX9_goes_66 : decode cX9_goes 66 = .ok (.iload_n 1, 1) := by decide +kernel
theorem dX9_goes_67 : decode cX9_goes 67 = .ok (.invokevirtual 144, 3) := by decide +kernel
theorem dX9_goes_70 : decode cX9_goes 70 = .ok (.ireturn, 1) := by decide +kernel
theorem dX9_then_0 : decode cX9_then 0 = .ok (.iload_n 1, 1) := by decide +kernel
theorem dX9_then_1 : decode cX9_then 1 = .ok (.ifCond .lt 8, 3) := by decide +kernel
theorem dX9_then_4 : decode cX9_then 4 = .ok (.iload_n 1, 1) := by decide +kernel
theorem dX9_then_5 : decode cX9_then 5 = .ok (.iconst 5, 1) := by decide +kernel
theorem dX9_then_6 : decode cX9_then 6 = .ok (.if_icmp .le 6, 3) := by decide +kernel
theorem dX9_then_9 : decode cX9_then 9 = .ok (.bipush (-2), 2) := by decide +kernel
theorem dX9_then_11 : decode cX9_then 11 = .ok (.ireturn, 1) := by decide +kernel
theorem dX9_then_12 : decode cX9_then 12 = .ok (.aload_n 0, 1) := by decide +kernel
theorem dX9_then_13 : decode cX9_then 13 = .ok (.getfield 39, 3) := by decide +kernel
theorem dX9_then_16 : decode cX9_then 16 = .ok (.aload_n 0, 1) := by decide +kernel
theorem dX9_then_17 : decode cX9_then 17 = .ok (.getfield 32, 3) := by decide +kernel
theorem dX9_then_20 : decode cX9_then 20 = .ok (.aload_n 0, 1) := by decide +kernel
theorem dX9_then_21 : decode cX9_then 21 = .ok (.getfield 12, 3) := by decide +kernel
theorem dX9_then_24 : decode cX9_then 24 = .ok (.getfield 61, 3) := by decide +kernel
theorem dX9_then_27 : decode cX9_then 27 = .ok (.aload_n 0, 1) := by decide +kernel
theorem dX9_then_28 : decode cX9_then 28 = .ok (.getfield 25, 3) := by decide +kernel
theorem dX9_then_31 : decode cX9_then 31 = .ok (.invokevirtual 123, 3) := by decide +kernel
theorem dX9_then_34 : decode cX9_then 34 = .ok (.ifCond .ne 6, 3) := by decide +kernel
theorem dX9_then_37 : decode cX9_then 37 = .ok (.bipush (-5), 2) := by decide +kernel
theorem dX9_then_39 : decode cX9_then 39 = .ok (.ireturn, 1) := by decide +kernel
theorem dX9_then_40 : decode cX9_then 40 = .ok (.iload_n 1, 1) := by decide +kernel
theorem dX9_then_41 : decode cX9_then 41 = .ok (.tableswitch 75 0 4 #[35, 43, 51, 59, 67], 35) := by decide +kernel
theorem dX9_then_76 : decode cX9_then 76 = .ok (.aload_n 0, 1) := by decide +kernel
theorem dX9_then_77 : decode cX9_then 77 = .ok (.getfield 25, 3) := by decide +kernel
theorem dX9_then_80 : decode cX9_then 80 = .ok (.invokevirtual 147, 3) := by decide +kernel
theorem dX9_then_83 : decode cX9_then 83 = .ok (.ireturn, 1) := by decide +kernel
theorem dX9_then_84 : decode cX9_then 84 = .ok (.aload_n 0, 1) := by decide +kernel
theorem dX9_then_85 : decode cX9_then 85 = .ok (.getfield 39, 3) := by decide +kernel
theorem dX9_then_88 : decode cX9_then 88 = .ok (.getfield 150, 3) := by decide +kernel
theorem dX9_then_91 : decode cX9_then 91 = .ok (.ireturn, 1) := by decide +kernel
theorem dX9_then_92 : decode cX9_then 92 = .ok (.aload_n 0, 1) := by decide +kernel
theorem dX9_then_93 : decode cX9_then 93 = .ok (.getfield 25, 3) := by decide +kernel
theorem dX9_then_96 : decode cX9_then 96 = .ok (.invokevirtual 153, 3) := by decide +kernel
theorem dX9_then_99 : decode cX9_then 99 = .ok (.ireturn, 1) := by decide +kernel
theorem dX9_then_100 : decode cX9_then 100 = .ok (.aload_n 0, 1) := by decide +kernel
theorem dX9_then_101 : decode cX9_then 101 = .ok (.getfield 25, 3) := by decide +kernel
theorem dX9_then_104 : decode cX9_then 104 = .ok (.getfield 156, 3) := by decide +kernel
theorem dX9_then_107 : decode cX9_then 107 = .ok (.ireturn, 1) := by decide +kernel
theorem dX9_then_108 : decode cX9_then 108 = .ok (.aload_n 0, 1) := by decide +kernel
theorem dX9_then_109 : decode cX9_then 109 = .ok (.getfield 39, 3) := by decide +kernel
theorem dX9_then_112 : decode cX9_then 112 = .ok (.getfield 159, 3) := by decide +kernel
theorem dX9_then_115 : decode cX9_then 115 = .ok (.ireturn, 1) := by decide +kernel
theorem dX9_then_116 : decode cX9_then 116 = .ok (.aload_n 0, 1) := by decide +kernel
theorem dX9_then_117 : decode cX9_then 117 = .ok (.getfield 39, 3) := by decide +kernel
theorem dX9_then_120 : decode cX9_then 120 = .ok (.getfield 162, 3) := by decide +kernel
theorem dX9_then_123 : decode cX9_then 123 = .ok (.ireturn, 1) := by decide +kernel
theorem dX9_round_0 : decode cX9_round 0 = .ok (.iload_n 1, 1) := by decide +kernel
theorem dX9_round_1 : decode cX9_round 1 = .ok (.invokestatic 79, 3) := by decide +kernel
theorem dX9_round_4 : decode cX9_round 4 = .ok (.ifCond .eq 10, 3) := by decide +kernel
theorem dX9_round_7 : decode cX9_round 7 = .ok (.iload_n 2, 1) := by decide +kernel
theorem dX9_round_8 : decode cX9_round 8 = .ok (.invokestatic 79, 3) := by decide +kernel
theorem dX9_round_11 : decode cX9_round 11 = .ok (.ifCond .ne 5, 3) := by decide +kernel
theorem dX9_round_14 : decode cX9_round 14 = .ok (.iconst (-1), 1) := by decide +kernel
theorem dX9_round_15 : decode cX9_round 15 = .ok (.ireturn, 1) := by decide +kernel
theorem dX9_round_16 : decode cX9_round 16 = .ok (.aload_n 0, 1) := by decide +kernel
theorem dX9_round_17 : decode cX9_round 17 = .ok (.getfield 46, 3) := by decide +kernel
theorem dX9_round_20 : decode cX9_round 20 = .ok (.aload_n 0, 1) := by decide +kernel
theorem dX9_round_21 : decode cX9_round 21 = .ok (.getfield 12, 3) := by decide +kernel
theorem dX9_round_24 : decode cX9_round 24 = .ok (.getfield 61, 3) := by decide +kernel
theorem dX9_round_27 : decode cX9_round 27 = .ok (.invokevirtual 165, 3) := by decide +kernel
theorem dX9_round_30 : decode cX9_round 30 = .ok (.aload_n 0, 1) := by decide +kernel
theorem dX9_round_31 : decode cX9_round 31 = .ok (.getfield 46, 3) := by decide +kernel
theorem dX9_round_34 : decode cX9_round 34 = .ok (.iload_n 1, 1) := by decide +kernel
theorem dX9_round_35 : decode cX9_round 35 = .ok (.iload_n 2, 1) := by decide +kernel
theorem dX9_round_36 : decode cX9_round 36 = .ok (.invokevirtual 168, 3) := by decide +kernel
theorem dX9_round_39 : decode cX9_round 39 = .ok (.ireturn, 1) := by decide +kernel
theorem dX9_mends_0 : decode cX9_mends 0 = .ok (.iload_n 1, 1) := by decide +kernel
theorem dX9_mends_1 : decode cX9_mends 1 = .ok (.invokestatic 79, 3) := by decide +kernel
theorem dX9_mends_4 : decode cX9_mends 4 = .ok (.ifCond .ne 5, 3) := by decide +kernel
theorem dX9_mends_7 : decode cX9_mends 7 = .ok (.iconst (-1), 1) := by decide +kernel
theorem dX9_mends_8 : decode cX9_mends 8 = .ok (.ireturn, 1) := by decide +kernel
theorem dX9_mends_9 : decode cX9_mends 9 = .ok (.aload_n 0, 1) := by decide +kernel
theorem dX9_mends_10 : decode cX9_mends 10 = .ok (.getfield 46, 3) := by decide +kernel
theorem dX9_mends_13 : decode cX9_mends 13 = .ok (.aload_n 0, 1) := by decide +kernel
theorem dX9_mends_14 : decode cX9_mends 14 = .ok (.getfield 12, 3) := by decide +kernel
theorem dX9_mends_17 : decode cX9_mends 17 = .ok (.getfield 61, 3) := by decide +kernel
theorem dX9_mends_20 : decode cX9_mends 20 = .ok (.invokevirtual 165, 3) := by decide +kernel
theorem dX9_mends_23 : decode cX9_mends 23 = .ok (.aload_n 0, 1) := by decide +kernel
theorem dX9_mends_24 : decode cX9_mends 24 = .ok (.getfield 46, 3) := by decide +kernel
theorem dX9_mends_27 : decode cX9_mends 27 = .ok (.iload_n 1, 1) := by decide +kernel
theorem dX9_mends_28 : decode cX9_mends 28 = .ok (.aload_n 0, 1) := by decide +kernel
theorem dX9_mends_29 : decode cX9_mends 29 = .ok (.getfield 12, 3) := by decide +kernel
theorem dX9_mends_32 : decode cX9_mends 32 = .ok (.getfield 61, 3) := by decide +kernel
theorem dX9_mends_35 : decode cX9_mends 35 = .ok (.iload_n 1, 1) := by decide +kernel
theorem dX9_mends_36 : decode cX9_mends 36 = .ok (.invokevirtual 171, 3) := by decide +kernel
theorem dX9_mends_39 : decode cX9_mends 39 = .ok (.invokevirtual 174, 3) := by decide +kernel
theorem dX9_mends_42 : decode cX9_mends 42 = .ok (.ireturn, 1) := by decide +kernel
theorem dX9_steady_0 : decode cX9_steady 0 = .ok (.aload_n 0, 1) := by decide +kernel
theorem dX9_steady_1 : decode cX9_steady 1 = .ok (.getfield 12, 3) := by decide +kernel
theorem dX9_steady_4 : decode cX9_steady 4 = .ok (.getfield 98, 3) := by decide +kernel
theorem dX9_steady_7 : decode cX9_steady 7 = .ok (.invokevirtual 177, 3) := by decide +kernel
theorem dX9_steady_10 : decode cX9_steady 10 = .ok (.ireturn, 1) := by decide +kernel
theorem dX9_wed_0 : decode cX9_wed 0 = .ok (.iload_n 1, 1) := by decide +kernel
theorem dX9_wed_1 : decode cX9_wed 1 = .ok (.iload_n 2, 1) := by decide +kernel
theorem dX9_wed_2 : decode cX9_wed 2 = .ok (.invokestatic 90, 3) := by decide +kernel
theorem dX9_wed_5 : decode cX9_wed 5 = .ok (.ifCond .ne 5, 3) := by decide +kernel
theorem dX9_wed_8 : decode cX9_wed 8 = .ok (.iconst (-1), 1) := by decide +kernel
theorem dX9_wed_9 : decode cX9_wed 9 = .ok (.ireturn, 1) := by decide +kernel
theorem dX9_wed_10 : decode cX9_wed 10 = .ok (.iload_n 3, 1) := by decide +kernel
theorem dX9_wed_11 : decode cX9_wed 11 = .ok (.invokestatic 120, 3) := by decide +kernel
theorem dX9_wed_14 : decode cX9_wed 14 = .ok (.ifCond .ne 6, 3) := by decide +kernel
theorem dX9_wed_17 : decode cX9_wed 17 = .ok (.bipush (-2), 2) := by decide +kernel
theorem dX9_wed_19 : decode cX9_wed 19 = .ok (.ireturn, 1) := by decide +kernel
theorem dX9_wed_20 : decode cX9_wed 20 = .ok (.aload_n 0, 1) := by decide +kernel
theorem dX9_wed_21 : decode cX9_wed 21 = .ok (.getfield 12, 3) := by decide +kernel
theorem dX9_wed_24 : decode cX9_wed 24 = .ok (.getfield 98, 3) := by decide +kernel
theorem dX9_wed_27 : decode cX9_wed 27 = .ok (.iload_n 3, 1) := by decide +kernel
theorem dX9_wed_28 : decode cX9_wed 28 = .ok (.invokevirtual 180, 3) := by decide +kernel
theorem dX9_wed_31 : decode cX9_wed 31 = .ok (.iload_n 1, 1) := by decide +kernel
theorem dX9_wed_32 : decode cX9_wed 32 = .ok (.iload_n 2, 1) := by decide +kernel
theorem dX9_wed_33 : decode cX9_wed 33 = .ok (.invokestatic 183, 3) := by decide +kernel
theorem dX9_wed_36 : decode cX9_wed 36 = .ok (.ireturn, 1) := by decide +kernel
theorem dX9_seen_0 : decode cX9_seen 0 = .ok (.iload_n 1, 1) := by decide +kernel
theorem dX9_seen_1 : decode cX9_seen 1 = .ok (.ifCond .lt 18, 3) := by decide +kernel
theorem dX9_seen_4 : decode cX9_seen 4 = .ok (.iload_n 1, 1) := by decide +kernel
theorem dX9_seen_5 : decode cX9_seen 5 = .ok (.iconst 5, 1) := by decide +kernel
theorem dX9_seen_6 : decode cX9_seen 6 = .ok (.if_icmp .gt 13, 3) := by decide +kernel
theorem dX9_seen_9 : decode cX9_seen 9 = .ok (.iload_n 2, 1) := by decide +kernel
theorem dX9_seen_10 : decode cX9_seen 10 = .ok (.ifCond .lt 9, 3) := by decide +kernel
theorem dX9_seen_13 : decode cX9_seen 13 = .ok (.iload_n 2, 1) := by decide +kernel
theorem dX9_seen_14 : decode cX9_seen 14 = .ok (.bipush 100, 2) := by decide +kernel
theorem dX9_seen_16 : decode cX9_seen 16 = .ok (.if_icmp .lt 6, 3) := by decide +kernel
theorem dX9_seen_19 : decode cX9_seen 19 = .ok (.bipush (-2), 2) := by decide +kernel
theorem dX9_seen_21 : decode cX9_seen 21 = .ok (.ireturn, 1) := by decide +kernel
theorem dX9_seen_22 : decode cX9_seen 22 = .ok (.aload_n 0, 1) := by decide +kernel
theorem dX9_seen_23 : decode cX9_seen 23 = .ok (.getfield 12, 3) := by decide +kernel
theorem dX9_seen_26 : decode cX9_seen 26 = .ok (.getfield 187, 3) := by decide +kernel
theorem dX9_seen_29 : decode cX9_seen 29 = .ok (.iload_n 1, 1) := by decide +kernel
theorem dX9_seen_30 : decode cX9_seen 30 = .ok (.iload_n 2, 1) := by decide +kernel
theorem dX9_seen_31 : decode cX9_seen 31 = .ok (.iload_n 3, 1) := by decide +kernel
theorem dX9_seen_32 : decode cX9_seen 32 = .ok (.invokevirtual 191, 3) := by decide +kernel
theorem dX9_seen_35 : decode cX9_seen 35 = .ok (.ifCond .eq 16, 3) := by decide +kernel
theorem dX9_seen_38 : decode cX9_seen 38 = .ok (.aload_n 0, 1) := by decide +kernel
theorem dX9_seen_39 : decode cX9_seen 39 = .ok (.getfield 12, 3) := by decide +kernel
theorem dX9_seen_42 : decode cX9_seen 42 = .ok (.getfield 187, 3) := by decide +kernel
theorem dX9_seen_45 : decode cX9_seen 45 = .ok (.getfield 196, 3) := by decide +kernel
theorem dX9_seen_48 : decode cX9_seen 48 = .ok (.goto 5, 3) := by decide +kernel
theorem dX9_seen_51 : decode cX9_seen 51 = .ok (.bipush (-4), 2) := by decide +kernel
theorem dX9_seen_53 : decode cX9_seen 53 = .ok (.ireturn, 1) := by decide +kernel
theorem dX9_forget_0 : decode cX9_forget 0 = .ok (.aload_n 0, 1) := by decide +kernel
theorem dX9_forget_1 : decode cX9_forget 1 = .ok (.getfield 12, 3) := by decide +kernel
theorem dX9_forget_4 : decode cX9_forget 4 = .ok (.getfield 187, 3) := by decide +kernel
theorem dX9_forget_7 : decode cX9_forget 7 = .ok (.getfield 196, 3) := by decide +kernel
theorem dX9_forget_10 : decode cX9_forget 10 = .ok (.istore_n 1, 1) := by decide +kernel
theorem dX9_forget_11 : decode cX9_forget 11 = .ok (.aload_n 0, 1) := by decide +kernel
theorem dX9_forget_12 : decode cX9_forget 12 = .ok (.getfield 12, 3) := by decide +kernel
theorem dX9_forget_15 : decode cX9_forget 15 = .ok (.getfield 187, 3) := by decide +kernel
theorem dX9_forget_18 : decode cX9_forget 18 = .ok (.invokevirtual 199, 3) := by decide +kernel
theorem dX9_forget_21 : decode cX9_forget 21 = .ok (.iload_n 1, 1) := by decide +kernel
theorem dX9_forget_22 : decode cX9_forget 22 = .ok (.ireturn, 1) := by decide +kernel
theorem dX9_posts_0 : decode cX9_posts 0 = .ok (.iload_n 1, 1) := by decide +kernel
theorem dX9_posts_1 : decode cX9_posts 1 = .ok (.iconst (-1), 1) := by decide +kernel
theorem dX9_posts_2 : decode cX9_posts 2 = .ok (.if_icmp .ne 16, 3) := by decide +kernel
theorem dX9_posts_5 : decode cX9_posts 5 = .ok (.aload_n 0, 1) := by decide +kernel
theorem dX9_posts_6 : decode cX9_posts 6 = .ok (.getfield 12, 3) := by decide +kernel
theorem dX9_posts_9 : decode cX9_posts 9 = .ok (.getfield 187, 3) := by decide +kernel
theorem dX9_posts_12 : decode cX9_posts 12 = .ok (.getfield 200, 3) := by decide +kernel
theorem dX9_posts_15 : decode cX9_posts 15 = .ok (.goto 14, 3) := by decide +kernel
theorem dX9_posts_18 : decode cX9_posts 18 = .ok (.aload_n 0, 1) := by decide +kernel
theorem dX9_posts_19 : decode cX9_posts 19 = .ok (.getfield 12, 3) := by decide +kernel
theorem dX9_posts_22 : decode cX9_posts 22 = .ok (.getfield 187, 3) := by decide +kernel
theorem dX9_posts_25 : decode cX9_posts 25 = .ok (.iload_n 1, 1) := by decide +kernel
theorem dX9_posts_26 : decode cX9_posts 26 = .ok (.invokevirtual 203, 3) := by decide +kernel
theorem dX9_posts_29 : decode cX9_posts 29 = .ok (.ireturn, 1) := by decide +kernel
theorem dX9_ask_0 : decode cX9_ask 0 = .ok (.iload_n 1, 1) := by decide +kernel
theorem dX9_ask_1 : decode cX9_ask 1 = .ok (.invokestatic 120, 3) := by decide +kernel
theorem dX9_ask_4 : decode cX9_ask 4 = .ok (.ifCond .ne 6, 3) := by decide +kernel
theorem dX9_ask_7 : decode cX9_ask 7 = .ok (.bipush (-2), 2) := by decide +kernel
theorem dX9_ask_9 : decode cX9_ask 9 = .ok (.ireturn, 1) := by decide +kernel
theorem dX9_ask_10 : decode cX9_ask 10 = .ok (.aload_n 0, 1) := by decide +kernel
theorem dX9_ask_11 : decode cX9_ask 11 = .ok (.getfield 12, 3) := by decide +kernel
theorem dX9_ask_14 : decode cX9_ask 14 = .ok (.getfield 187, 3) := by decide +kernel
theorem dX9_ask_17 : decode cX9_ask 17 = .ok (.invokevirtual 206, 3) := by decide +kernel
theorem dX9_ask_20 : decode cX9_ask 20 = .ok (.istore_n 2, 1) := by decide +kernel
theorem dX9_ask_21 : decode cX9_ask 21 = .ok (.iload_n 2, 1) := by decide +kernel
theorem dX9_ask_22 : decode cX9_ask 22 = .ok (.bipush (-6), 2) := by decide +kernel
theorem dX9_ask_24 : decode cX9_ask 24 = .ok (.if_icmp .eq 7, 3) := by decide +kernel
theorem dX9_ask_27 : decode cX9_ask 27 = .ok (.iload_n 1, 1) := by decide +kernel
theorem dX9_ask_28 : decode cX9_ask 28 = .ok (.ifCond .ne 5, 3) := by decide +kernel
theorem dX9_ask_31 : decode cX9_ask 31 = .ok (.iload_n 2, 1) := by decide +kernel
theorem dX9_ask_32 : decode cX9_ask 32 = .ok (.ireturn, 1) := by decide +kernel
theorem dX9_ask_33 : decode cX9_ask 33 = .ok (.aload_n 0, 1) := by decide +kernel
theorem dX9_ask_34 : decode cX9_ask 34 = .ok (.getfield 12, 3) := by decide +kernel
theorem dX9_ask_37 : decode cX9_ask 37 = .ok (.getfield 187, 3) := by decide +kernel
theorem dX9_ask_40 : decode cX9_ask 40 = .ok (.iload_n 2, 1) := by decide +kernel
theorem dX9_ask_41 : decode cX9_ask 41 = .ok (.invokevirtual 209, 3) := by decide +kernel
theorem dX9_ask_44 : decode cX9_ask 44 = .ok (.ireturn, 1) := by decide +kernel
theorem dX9_heaps_0 : decode cX9_heaps 0 = .ok (.iload_n 1, 1) := by decide +kernel
theorem dX9_heaps_1 : decode cX9_heaps 1 = .ok (.ifCond .lt 16, 3) := by decide +kernel
theorem dX9_heaps_4 : decode cX9_heaps 4 = .ok (.iload_n 1, 1) := by decide +kernel
theorem dX9_heaps_5 : decode cX9_heaps 5 = .ok (.bipush 60, 2) := by decide +kernel
theorem dX9_heaps_7 : decode cX9_heaps 7 = .ok (.if_icmp .gt 10, 3) := by decide +kernel
theorem dX9_heaps_10 : decode cX9_heaps 10 = .ok (.iload_n 2, 1) := by decide +kernel
theorem dX9_heaps_11 : decode cX9_heaps 11 = .ok (.invokestatic 120, 3) := by decide +kernel
theorem dX9_heaps_14 : decode cX9_heaps 14 = .ok (.ifCond .ne 6, 3) := by decide +kernel
theorem dX9_heaps_17 : decode cX9_heaps 17 = .ok (.bipush (-2), 2) := by decide +kernel
theorem dX9_heaps_19 : decode cX9_heaps 19 = .ok (.ireturn, 1) := by decide +kernel
theorem dX9_heaps_20 : decode cX9_heaps 20 = .ok (.aload_n 0, 1) := by decide +kernel
theorem dX9_heaps_21 : decode cX9_heaps 21 = .ok (.getfield 53, 3) := by decide +kernel
theorem dX9_heaps_24 : decode cX9_heaps 24 = .ok (.iload_n 1, 1) := by decide +kernel
theorem dX9_heaps_25 : decode cX9_heaps 25 = .ok (.invokevirtual 212, 3) := by decide +kernel
theorem dX9_heaps_28 : decode cX9_heaps 28 = .ok (.istore_n 3, 1) := by decide +kernel
theorem dX9_heaps_29 : decode cX9_heaps 29 = .ok (.iload_n 2, 1) := by decide +kernel
theorem dX9_heaps_30 : decode cX9_heaps 30 = .ok (.iconst 1, 1) := by decide +kernel
theorem dX9_heaps_31 : decode cX9_heaps 31 = .ok (.if_icmp .ne 5, 3) := by decide +kernel
theorem dX9_heaps_34 : decode cX9_heaps 34 = .ok (.iload_n 3, 1) := by decide +kernel
theorem dX9_heaps_35 : decode cX9_heaps 35 = .ok (.ireturn, 1) := by decide +kernel
theorem dX9_heaps_36 : decode cX9_heaps 36 = .ok (.iload_n 3, 1) := by decide +kernel
theorem dX9_heaps_37 : decode cX9_heaps 37 = .ok (.bipush (-6), 2) := by decide +kernel
theorem dX9_heaps_39 : decode cX9_heaps 39 = .ok (.if_icmp .ne 7, 3) := by decide +kernel
theorem dX9_heaps_42 : decode cX9_heaps 42 = .ok (.iconst 0, 1) := by decide +kernel
theorem dX9_heaps_43 : decode cX9_heaps 43 = .ok (.goto 4, 3) := by decide +kernel
theorem dX9_heaps_46 : decode cX9_heaps 46 = .ok (.iconst 1, 1) := by decide +kernel
theorem dX9_heaps_47 : decode cX9_heaps 47 = .ok (.ireturn, 1) := by decide +kernel
theorem dX9_gust_0 : decode cX9_gust 0 = .ok (.iload_n 1, 1) := by decide +kernel
theorem dX9_gust_1 : decode cX9_gust 1 = .ok (.iconst 1, 1) := by decide +kernel
theorem dX9_gust_2 : decode cX9_gust 2 = .ok (.if_icmp .lt 34, 3) := by decide +kernel
theorem dX9_gust_5 : decode cX9_gust 5 = .ok (.iload_n 1, 1) := by decide +kernel
theorem dX9_gust_6 : decode cX9_gust 6 = .ok (.bipush 12, 2) := by decide +kernel
theorem dX9_gust_8 : decode cX9_gust 8 = .ok (.if_icmp .gt 28, 3) := by decide +kernel
theorem dX9_gust_11 : decode cX9_gust 11 = .ok (.iload_n 2, 1) := by decide +kernel
theorem dX9_gust_12 : decode cX9_gust 12 = .ok (.iconst 1, 1) := by decide +kernel
theorem dX9_gust_13 : decode cX9_gust 13 = .ok (.if_icmp .lt 23, 3) := by decide +kernel
theorem dX9_gust_16 : decode cX9_gust 16 = .ok (.iload_n 2, 1) := by decide +kernel
theorem dX9_gust_17 : decode cX9_gust 17 = .ok (.bipush 9, 2) := by decide +kernel
theorem dX9_gust_19 : decode cX9_gust 19 = .ok (.if_icmp .gt 17, 3) := by decide +kernel
theorem dX9_gust_22 : decode cX9_gust 22 = .ok (.iload_n 3, 1) := by decide +kernel
theorem dX9_gust_23 : decode cX9_gust 23 = .ok (.iconst 1, 1) := by decide +kernel
theorem dX9_gust_24 : decode cX9_gust 24 = .ok (.if_icmp .lt 12, 3) := by decide +kernel
theorem dX9_gust_27 : decode cX9_gust 27 = .ok (.iload_n 3, 1) := by decide +kernel
theorem dX9_gust_28 : decode cX9_gust 28 = .ok (.iload_n 2, 1) := by decide +kernel
theorem dX9_gust_29 : decode cX9_gust 29 = .ok (.if_icmp .gt 7, 3) := by decide +kernel
theorem dX9_gust_32 : decode cX9_gust 32 = .ok (.iconst 1, 1) := by decide +kernel
theorem dX9_gust_33 : decode cX9_gust 33 = .ok (.goto 4, 3) := by decide +kernel
theorem dX9_gust_36 : decode cX9_gust 36 = .ok (.iconst 0, 1) := by decide +kernel
theorem dX9_gust_37 : decode cX9_gust 37 = .ok (.istore 6, 2) := by decide +kernel
theorem dX9_gust_39 : decode cX9_gust 39 = .ok (.iload 6, 2) := by decide +kernel
theorem dX9_gust_41 : decode cX9_gust 41 = .ok (.ifCond .eq 19, 3) := by decide +kernel
theorem dX9_gust_44 : decode cX9_gust 44 = .ok (.iload 4, 2) := by decide +kernel
theorem dX9_gust_46 : decode cX9_gust 46 = .ok (.invokestatic 120, 3) := by decide +kernel
theorem dX9_gust_49 : decode cX9_gust 49 = .ok (.ifCond .eq 11, 3) := by decide +kernel
theorem dX9_gust_52 : decode cX9_gust 52 = .ok (.iload 5, 2) := by decide +kernel
theorem dX9_gust_54 : decode cX9_gust 54 = .ok (.invokestatic 120, 3) := by decide +kernel
theorem dX9_gust_57 : decode cX9_gust 57 = .ok (.ifCond .ne 7, 3) := by decide +kernel
theorem dX9_gust_60 : decode cX9_gust 60 = .ok (.ldc2_w 215, 3) := by decide +kernel
theorem dX9_gust_63 : decode cX9_gust 63 = .ok (.lreturn, 1) := by decide +kernel
theorem dX9_gust_64 : decode cX9_gust 64 = .ok (.iload 4, 2) := by decide +kernel
theorem dX9_gust_66 : decode cX9_gust 66 = .ok (.ifCond .ne 11, 3) := by decide +kernel
theorem dX9_gust_69 : decode cX9_gust 69 = .ok (.iload_n 1, 1) := by decide +kernel
theorem dX9_gust_70 : decode cX9_gust 70 = .ok (.iload_n 3, 1) := by decide +kernel
theorem dX9_gust_71 : decode cX9_gust 71 = .ok (.invokestatic 217, 3) := by decide +kernel
theorem dX9_gust_74 : decode cX9_gust 74 = .ok (.goto 8, 3) := by decide +kernel
theorem dX9_gust_77 : decode cX9_gust 77 = .ok (.iload_n 1, 1) := by decide +kernel
theorem dX9_gust_78 : decode cX9_gust 78 = .ok (.iload_n 2, 1) := by decide +kernel
theorem dX9_gust_79 : decode cX9_gust 79 = .ok (.invokestatic 223, 3) := by decide +kernel
theorem dX9_gust_82 : decode cX9_gust 82 = .ok (.lstore 7, 2) := by decide +kernel
theorem dX9_gust_84 : decode cX9_gust 84 = .ok (.lload 7, 2) := by decide +kernel
theorem dX9_gust_86 : decode cX9_gust 86 = .ok (.iload_n 2, 1) := by decide +kernel
theorem dX9_gust_87 : decode cX9_gust 87 = .ok (.iload_n 1, 1) := by decide +kernel
theorem dX9_gust_88 : decode cX9_gust 88 = .ok (.invokestatic 226, 3) := by decide +kernel
theorem dX9_gust_91 : decode cX9_gust 91 = .ok (.iload 5, 2) := by decide +kernel
theorem dX9_gust_93 : decode cX9_gust 93 = .ok (.invokestatic 229, 3) := by decide +kernel
theorem dX9_gust_96 : decode cX9_gust 96 = .ok (.lreturn, 1) := by decide +kernel
theorem dX9_year_0 : decode cX9_year 0 = .ok (.iload_n 1, 1) := by decide +kernel
theorem dX9_year_1 : decode cX9_year 1 = .ok (.ifCond .lt 25, 3) := by decide +kernel
theorem dX9_year_4 : decode cX9_year 4 = .ok (.iload_n 1, 1) := by decide +kernel
theorem dX9_year_5 : decode cX9_year 5 = .ok (.sipush 9999, 3) := by decide +kernel
theorem dX9_year_8 : decode cX9_year 8 = .ok (.if_icmp .gt 18, 3) := by decide +kernel
theorem dX9_year_11 : decode cX9_year 11 = .ok (.iload_n 2, 1) := by decide +kernel
theorem dX9_year_12 : decode cX9_year 12 = .ok (.iconst 1, 1) := by decide +kernel
theorem dX9_year_13 : decode cX9_year 13 = .ok (.if_icmp .lt 13, 3) := by decide +kernel
theorem dX9_year_16 : decode cX9_year 16 = .ok (.iload_n 2, 1) := by decide +kernel
theorem dX9_year_17 : decode cX9_year 17 = .ok (.bipush 99, 2) := by decide +kernel
theorem dX9_year_19 : decode cX9_year 19 = .ok (.if_icmp .gt 7, 3) := by decide +kernel
theorem dX9_year_22 : decode cX9_year 22 = .ok (.iconst 1, 1) := by decide +kernel
theorem dX9_year_23 : decode cX9_year 23 = .ok (.goto 4, 3) := by decide +kernel
theorem dX9_year_26 : decode cX9_year 26 = .ok (.iconst 0, 1) := by decide +kernel
theorem dX9_year_27 : decode cX9_year 27 = .ok (.istore 4, 2) := by decide +kernel
theorem dX9_year_29 : decode cX9_year 29 = .ok (.iload 4, 2) := by decide +kernel
theorem dX9_year_31 : decode cX9_year 31 = .ok (.ifCond .eq 12, 3) := by decide +kernel
theorem dX9_year_34 : decode cX9_year 34 = .ok (.iload_n 3, 1) := by decide +kernel
theorem dX9_year_35 : decode cX9_year 35 = .ok (.ifCond .lt 8, 3) := by decide +kernel
theorem dX9_year_38 : decode cX9_year 38 = .ok (.iload_n 3, 1) := by decide +kernel
theorem dX9_year_39 : decode cX9_year 39 = .ok (.iconst 2, 1) := by decide +kernel
theorem dX9_year_40 : decode cX9_year 40 = .ok (.if_icmp .le 6, 3) := by decide +kernel
theorem dX9_year_43 : decode cX9_year 43 = .ok (.bipush (-2), 2) := by decide +kernel
theorem dX9_year_45 : decode cX9_year 45 = .ok (.ireturn, 1) := by decide +kernel
theorem dX9_year_46 : decode cX9_year 46 = .ok (.aload_n 0, 1) := by decide +kernel
theorem dX9_year_47 : decode cX9_year 47 = .ok (.getfield 25, 3) := by decide +kernel
theorem dX9_year_50 : decode cX9_year 50 = .ok (.aload_n 0, 1) := by decide +kernel
theorem dX9_year_51 : decode cX9_year 51 = .ok (.getfield 12, 3) := by decide +kernel
theorem dX9_year_54 : decode cX9_year 54 = .ok (.getfield 61, 3) := by decide +kernel
theorem dX9_year_57 : decode cX9_year 57 = .ok (.invokevirtual 134, 3) := by decide +kernel
theorem dX9_year_60 : decode cX9_year 60 = .ok (.aload_n 0, 1) := by decide +kernel
theorem dX9_year_61 : decode cX9_year 61 = .ok (.getfield 25, 3) := by decide +kernel
theorem dX9_year_64 : decode cX9_year 64 = .ok (.iload_n 1, 1) := by decide +kernel
theorem dX9_year_65 : decode cX9_year 65 = .ok (.iload_n 2, 1) := by decide +kernel
theorem dX9_year_66 : decode cX9_year 66 = .ok (.invokevirtual 233, 3) := by decide +kernel
theorem dX9_year_69 : decode cX9_year 69 = .ok (.iload_n 3, 1) := by decide +kernel
theorem dX9_year_70 : decode cX9_year 70 = .ok (.lookupswitch 45 #[(0, 26), (1, 34)], 26) := by decide +kernel
theorem dX9_year_96 : decode cX9_year 96 = .ok (.aload_n 0, 1) := by decide +kernel
theorem dX9_year_97 : decode cX9_year 97 = .ok (.getfield 25, 3) := by decide +kernel
theorem dX9_year_100 : decode cX9_year 100 = .ok (.invokevirtual 147, 3) := by decide +kernel
theorem dX9_year_103 : decode cX9_year 103 = .ok (.ireturn, 1) := by decide +kernel
theorem dX9_year_104 : decode cX9_year 104 = .ok (.aload_n 0, 1) := by decide +kernel
theorem dX9_year_105 : decode cX9_year 105 = .ok (.getfield 25, 3) := by decide +kernel
theorem dX9_year_108 : decode cX9_year 108 = .ok (.invokevirtual 153, 3) := by decide +kernel
theorem dX9_year_111 : decode cX9_year 111 = .ok (.invokestatic 237, 3) := by decide +kernel
theorem dX9_year_114 : decode cX9_year 114 = .ok (.ireturn, 1) := by decide +kernel
theorem dX9_year_115 : decode cX9_year 115 = .ok (.aload_n 0, 1) := by decide +kernel
theorem dX9_year_116 : decode cX9_year 116 = .ok (.getfield 25, 3) := by decide +kernel
theorem dX9_year_119 : decode cX9_year 119 = .ok (.iconst 0, 1) := by decide +kernel
theorem dX9_year_120 : decode cX9_year 120 = .ok (.invokevirtual 144, 3) := by decide +kernel
theorem dX9_year_123 : decode cX9_year 123 = .ok (.ireturn, 1) := by decide +kernel
theorem dX9_image_0 : decode cX9_image 0 = .ok (.iload_n 1, 1) := by decide +kernel
theorem dX9_image_1 : decode cX9_image 1 = .ok (.invokestatic 120, 3) := by decide +kernel
theorem dX9_image_4 : decode cX9_image 4 = .ok (.ifCond .ne 6, 3) := by decide +kernel
theorem dX9_image_7 : decode cX9_image 7 = .ok (.bipush (-2), 2) := by decide +kernel
theorem dX9_image_9 : decode cX9_image 9 = .ok (.ireturn, 1) := by decide +kernel
theorem dX9_image_10 : decode cX9_image 10 = .ok (.iload_n 1, 1) := by decide +kernel
theorem dX9_image_11 : decode cX9_image 11 = .ok (.ifCond .ne 10, 3) := by decide +kernel
theorem dX9_image_14 : decode cX9_image 14 = .ok (.aload_n 0, 1) := by decide +kernel
theorem dX9_image_15 : decode cX9_image 15 = .ok (.getfield 16, 3) := by decide +kernel
theorem dX9_image_18 : decode cX9_image 18 = .ok (.goto 7, 3) := by decide +kernel
theorem dX9_image_21 : decode cX9_image 21 = .ok (.aload_n 0, 1) := by decide +kernel
theorem dX9_image_22 : decode cX9_image 22 = .ok (.getfield 19, 3) := by decide +kernel
theorem dX9_image_25 : decode cX9_image 25 = .ok (.astore_n 2, 1) := by decide +kernel
theorem dX9_image_26 : decode cX9_image 26 = .ok (.aload_n 2, 1) := by decide +kernel
theorem dX9_image_27 : decode cX9_image 27 = .ok (.aload_n 0, 1) := by decide +kernel
theorem dX9_image_28 : decode cX9_image 28 = .ok (.getfield 12, 3) := by decide +kernel
theorem dX9_image_31 : decode cX9_image 31 = .ok (.invokevirtual 242, 3) := by decide +kernel
theorem dX9_image_34 : decode cX9_image 34 = .ok (.aload_n 2, 1) := by decide +kernel
theorem dX9_image_35 : decode cX9_image 35 = .ok (.iconst 1, 1) := by decide +kernel
theorem dX9_image_36 : decode cX9_image 36 = .ok (.putfield 245, 3) := by decide +kernel
theorem dX9_image_39 : decode cX9_image 39 = .ok (.iconst 1, 1) := by decide +kernel
theorem dX9_image_40 : decode cX9_image 40 = .ok (.ireturn, 1) := by decide +kernel
theorem dX9_restore_0 : decode cX9_restore 0 = .ok (.iload_n 1, 1) := by decide +kernel
theorem dX9_restore_1 : decode cX9_restore 1 = .ok (.invokestatic 120, 3) := by decide +kernel
theorem dX9_restore_4 : decode cX9_restore 4 = .ok (.ifCond .ne 6, 3) := by decide +kernel
theorem dX9_restore_7 : decode cX9_restore 7 = .ok (.bipush (-2), 2) := by decide +kernel
theorem dX9_restore_9 : decode cX9_restore 9 = .ok (.ireturn, 1) := by decide +kernel
theorem dX9_restore_10 : decode cX9_restore 10 = .ok (.iload_n 1, 1) := by decide +kernel
theorem dX9_restore_11 : decode cX9_restore 11 = .ok (.ifCond .ne 10, 3) := by decide +kernel
theorem dX9_restore_14 : decode cX9_restore 14 = .ok (.aload_n 0, 1) := by decide +kernel
theorem dX9_restore_15 : decode cX9_restore 15 = .ok (.getfield 16, 3) := by decide +kernel
theorem dX9_restore_18 : decode cX9_restore 18 = .ok (.goto 7, 3) := by decide +kernel
theorem dX9_restore_21 : decode cX9_restore 21 = .ok (.aload_n 0, 1) := by decide +kernel
theorem dX9_restore_22 : decode cX9_restore 22 = .ok (.getfield 19, 3) := by decide +kernel
theorem dX9_restore_25 : decode cX9_restore 25 = .ok (.astore_n 2, 1) := by decide +kernel
theorem dX9_restore_26 : decode cX9_restore 26 = .ok (.aload_n 2, 1) := by decide +kernel
theorem dX9_restore_27 : decode cX9_restore 27 = .ok (.getfield 245, 3) := by decide +kernel
theorem dX9_restore_30 : decode cX9_restore 30 = .ok (.ifCond .ne 6, 3) := by decide +kernel
theorem dX9_restore_33 : decode cX9_restore 33 = .ok (.bipush (-3), 2) := by decide +kernel
theorem dX9_restore_35 : decode cX9_restore 35 = .ok (.ireturn, 1) := by decide +kernel
theorem dX9_restore_36 : decode cX9_restore 36 = .ok (.aload_n 0, 1) := by decide +kernel
theorem dX9_restore_37 : decode cX9_restore 37 = .ok (.getfield 12, 3) := by decide +kernel
theorem dX9_restore_40 : decode cX9_restore 40 = .ok (.aload_n 2, 1) := by decide +kernel
theorem dX9_restore_41 : decode cX9_restore 41 = .ok (.invokevirtual 242, 3) := by decide +kernel
theorem dX9_restore_44 : decode cX9_restore 44 = .ok (.iconst 1, 1) := by decide +kernel
theorem dX9_restore_45 : decode cX9_restore 45 = .ok (.ireturn, 1) := by decide +kernel
theorem dX9_told_0 : decode cX9_told 0 = .ok (.iload_n 1, 1) := by decide +kernel
theorem dX9_told_1 : decode cX9_told 1 = .ok (.ifCond .ge 6, 3) := by decide +kernel
theorem dX9_told_4 : decode cX9_told 4 = .ok (.bipush (-2), 2) := by decide +kernel
theorem dX9_told_6 : decode cX9_told 6 = .ok (.ireturn, 1) := by decide +kernel
theorem dX9_told_7 : decode cX9_told 7 = .ok (.iload_n 1, 1) := by decide +kernel
theorem dX9_told_8 : decode cX9_told 8 = .ok (.bipush 10, 2) := by decide +kernel
theorem dX9_told_10 : decode cX9_told 10 = .ok (.if_icmp .ge 9, 3) := by decide +kernel
theorem dX9_told_13 : decode cX9_told 13 = .ok (.aload_n 0, 1) := by decide +kernel
theorem dX9_told_14 : decode cX9_told 14 = .ok (.iload_n 1, 1) := by decide +kernel
theorem dX9_told_15 : decode cX9_told 15 = .ok (.invokevirtual 249, 3) := by decide +kernel
theorem dX9_told_18 : decode cX9_told 18 = .ok (.ireturn, 1) := by decide +kernel
theorem dX9_told_19 : decode cX9_told 19 = .ok (.iload_n 1, 1) := by decide +kernel
theorem dX9_told_20 : decode cX9_told 20 = .ok (.bipush 30, 2) := by decide +kernel
theorem dX9_told_22 : decode cX9_told 22 = .ok (.if_icmp .ge 16, 3) := by decide +kernel
theorem dX9_told_25 : decode cX9_told 25 = .ok (.aload_n 0, 1) := by decide +kernel
theorem dX9_told_26 : decode cX9_told 26 = .ok (.iload_n 1, 1) := by decide +kernel
theorem dX9_told_27 : decode cX9_told 27 = .ok (.bipush 10, 2) := by decide +kernel
theorem dX9_told_29 : decode cX9_told 29 = .ok (.idiv, 1) := by decide +kernel
theorem dX9_told_30 : decode cX9_told 30 = .ok (.iload_n 1, 1) := by decide +kernel
theorem dX9_told_31 : decode cX9_told 31 = .ok (.bipush 10, 2) := by decide +kernel
theorem dX9_told_33 : decode cX9_told 33 = .ok (.irem, 1) := by decide +kernel
theorem dX9_told_34 : decode cX9_told 34 = .ok (.invokevirtual 252, 3) := by decide +kernel
theorem dX9_told_37 : decode cX9_told 37 = .ok (.ireturn, 1) := by decide +kernel
theorem dX9_told_38 : decode cX9_told 38 = .ok (.iload_n 1, 1) := by decide +kernel
theorem dX9_told_39 : decode cX9_told 39 = .ok (.bipush 100, 2) := by decide +kernel
theorem dX9_told_41 : decode cX9_told 41 = .ok (.if_icmp .ge 18, 3) := by decide +kernel
theorem dX9_told_44 : decode cX9_told 44 = .ok (.aload_n 0, 1) := by decide +kernel
theorem dX9_told_45 : decode cX9_told 45 = .ok (.iload_n 1, 1) := by decide +kernel
theorem dX9_told_46 : decode cX9_told 46 = .ok (.bipush 10, 2) := by decide +kernel
theorem dX9_told_48 : decode cX9_told 48 = .ok (.idiv, 1) := by decide +kernel
theorem dX9_told_49 : decode cX9_told 49 = .ok (.iconst 3, 1) := by decide +kernel
theorem dX9_told_50 : decode cX9_told 50 = .ok (.isub, 1) := by decide +kernel
theorem dX9_told_51 : decode cX9_told 51 = .ok (.iload_n 1, 1) := by decide +kernel
theorem dX9_told_52 : decode cX9_told 52 = .ok (.bipush 10, 2) := by decide +kernel
theorem dX9_told_54 : decode cX9_told 54 = .ok (.irem, 1) := by decide +kernel
theorem dX9_told_55 : decode cX9_told 55 = .ok (.invokevirtual 255, 3) := by decide +kernel
theorem dX9_told_58 : decode cX9_told 58 = .ok (.ireturn, 1) := by decide +kernel
theorem dX9_told_59 : decode cX9_told 59 = .ok (.aload_n 0, 1) := by decide +kernel
theorem dX9_told_60 : decode cX9_told 60 = .ok (.iload_n 1, 1) := by decide +kernel
theorem dX9_told_61 : decode cX9_told 61 = .ok (.bipush 100, 2) := by decide +kernel
theorem dX9_told_63 : decode cX9_told 63 = .ok (.idiv, 1) := by decide +kernel
theorem dX9_told_64 : decode cX9_told 64 = .ok (.iload_n 1, 1) := by decide +kernel
theorem dX9_told_65 : decode cX9_told 65 = .ok (.bipush 10, 2) := by decide +kernel
theorem dX9_told_67 : decode cX9_told 67 = .ok (.idiv, 1) := by decide +kernel
theorem dX9_told_68 : decode cX9_told 68 = .ok (.bipush 10, 2) := by decide +kernel
theorem dX9_told_70 : decode cX9_told 70 = .ok (.irem, 1) := by decide +kernel
theorem dX9_told_71 : decode cX9_told 71 = .ok (.iload_n 1, 1) := by decide +kernel
theorem dX9_told_72 : decode cX9_told 72 = .ok (.bipush 10, 2) := by decide +kernel
theorem dX9_told_74 : decode cX9_told 74 = .ok (.irem, 1) := by decide +kernel
theorem dX9_told_75 : decode cX9_told 75 = .ok (.invokevirtual 258, 3) := by decide +kernel
theorem dX9_told_78 : decode cX9_told 78 = .ok (.ireturn, 1) := by decide +kernel
theorem dX9_toldOfAll_0 : decode cX9_toldOfAll 0 = .ok (.iload_n 1, 1) := by decide +kernel
theorem dX9_toldOfAll_1 : decode cX9_toldOfAll 1 = .ok (.tableswitch 87 0 4 #[35, 43, 54, 65, 76], 35) := by decide +kernel
theorem dX9_toldOfAll_36 : decode cX9_toldOfAll 36 = .ok (.aload_n 0, 1) := by decide +kernel
theorem dX9_toldOfAll_37 : decode cX9_toldOfAll 37 = .ok (.getfield 32, 3) := by decide +kernel
theorem dX9_toldOfAll_40 : decode cX9_toldOfAll 40 = .ok (.invokevirtual 111, 3) := by decide +kernel
theorem dX9_toldOfAll_43 : decode cX9_toldOfAll 43 = .ok (.ireturn, 1) := by decide +kernel
theorem dX9_toldOfAll_44 : decode cX9_toldOfAll 44 = .ok (.aload_n 0, 1) := by decide +kernel
theorem dX9_toldOfAll_45 : decode cX9_toldOfAll 45 = .ok (.getfield 12, 3) := by decide +kernel
theorem dX9_toldOfAll_48 : decode cX9_toldOfAll 48 = .ok (.getfield 61, 3) := by decide +kernel
theorem dX9_toldOfAll_51 : decode cX9_toldOfAll 51 = .ok (.invokevirtual 147, 3) := by decide +kernel
theorem dX9_toldOfAll_54 : decode cX9_toldOfAll 54 = .ok (.ireturn, 1) := by decide +kernel
theorem dX9_toldOfAll_55 : decode cX9_toldOfAll 55 = .ok (.aload_n 0, 1) := by decide +kernel
theorem dX9_toldOfAll_56 : decode cX9_toldOfAll 56 = .ok (.getfield 12, 3) := by decide +kernel
theorem dX9_toldOfAll_59 : decode cX9_toldOfAll 59 = .ok (.getfield 61, 3) := by decide +kernel
theorem dX9_toldOfAll_62 : decode cX9_toldOfAll 62 = .ok (.invokevirtual 153, 3) := by decide +kernel
theorem dX9_toldOfAll_65 : decode cX9_toldOfAll 65 = .ok (.ireturn, 1) := by decide +kernel
theorem dX9_toldOfAll_66 : decode cX9_toldOfAll 66 = .ok (.aload_n 0, 1) := by decide +kernel
theorem dX9_toldOfAll_67 : decode cX9_toldOfAll 67 = .ok (.getfield 12, 3) := by decide +kernel
theorem dX9_toldOfAll_70 : decode cX9_toldOfAll 70 = .ok (.getfield 61, 3) := by decide +kernel
theorem dX9_toldOfAll_73 : decode cX9_toldOfAll 73 = .ok (.getfield 156, 3) := by decide +kernel
theorem dX9_toldOfAll_76 : decode cX9_toldOfAll 76 = .ok (.ireturn, 1) := by decide +kernel
theorem dX9_toldOfAll_77 : decode cX9_toldOfAll 77 = .ok (.aload_n 0, 1) := by decide +kernel
theorem dX9_toldOfAll_78 : decode cX9_toldOfAll 78 = .ok (.getfield 12, 3) := by decide +kernel
theorem dX9_toldOfAll_81 : decode cX9_toldOfAll 81 = .ok (.getfield 187, 3) := by decide +kernel
theorem dX9_toldOfAll_84 : decode cX9_toldOfAll 84 = .ok (.getfield 196, 3) := by decide +kernel
theorem dX9_toldOfAll_87 : decode cX9_toldOfAll 87 = .ok (.ireturn, 1) := by decide +kernel
theorem dX9_toldOfAll_88 : decode cX9_toldOfAll 88 = .ok (.bipush (-2), 2) := by decide +kernel
theorem dX9_toldOfAll_90 : decode cX9_toldOfAll 90 = .ok (.ireturn, 1) := by decide +kernel
theorem dX9_toldOfFarm_0 : decode cX9_toldOfFarm 0 = .ok (.iload_n 2, 1) := by decide +kernel
theorem dX9_toldOfFarm_1 : decode cX9_toldOfFarm 1 = .ok (.invokestatic 79, 3) := by decide +kernel
theorem dX9_toldOfFarm_4 : decode cX9_toldOfFarm 4 = .ok (.ifCond .ne 6, 3) := by decide +kernel
theorem dX9_toldOfFarm_7 : decode cX9_toldOfFarm 7 = .ok (.bipush (-2), 2) := by decide +kernel
theorem dX9_toldOfFarm_9 : decode cX9_toldOfFarm 9 = .ok (.ireturn, 1) := by decide +kernel
theorem dX9_toldOfFarm_10 : decode cX9_toldOfFarm 10 = .ok (.iload_n 1, 1) := by decide +kernel
theorem dX9_toldOfFarm_11 : decode cX9_toldOfFarm 11 = .ok (.iconst 1, 1) := by decide +kernel
theorem dX9_toldOfFarm_12 : decode cX9_toldOfFarm 12 = .ok (.if_icmp .ne 17, 3) := by decide +kernel
theorem dX9_toldOfFarm_15 : decode cX9_toldOfFarm 15 = .ok (.aload_n 0, 1) := by decide +kernel
theorem dX9_toldOfFarm_16 : decode cX9_toldOfFarm 16 = .ok (.getfield 12, 3) := by decide +kernel
theorem dX9_toldOfFarm_19 : decode cX9_toldOfFarm 19 = .ok (.getfield 61, 3) := by decide +kernel
theorem dX9_toldOfFarm_22 : decode cX9_toldOfFarm 22 = .ok (.iload_n 2, 1) := by decide +kernel
theorem dX9_toldOfFarm_23 : decode cX9_toldOfFarm 23 = .ok (.invokevirtual 83, 3) := by decide +kernel
theorem dX9_toldOfFarm_26 : decode cX9_toldOfFarm 26 = .ok (.goto 14, 3) := by decide +kernel
theorem dX9_toldOfFarm_29 : decode cX9_toldOfFarm 29 = .ok (.aload_n 0, 1) := by decide +kernel
theorem dX9_toldOfFarm_30 : decode cX9_toldOfFarm 30 = .ok (.getfield 12, 3) := by decide +kernel
theorem dX9_toldOfFarm_33 : decode cX9_toldOfFarm 33 = .ok (.getfield 61, 3) := by decide +kernel
theorem dX9_toldOfFarm_36 : decode cX9_toldOfFarm 36 = .ok (.iload_n 2, 1) := by decide +kernel
theorem dX9_toldOfFarm_37 : decode cX9_toldOfFarm 37 = .ok (.invokevirtual 144, 3) := by decide +kernel
theorem dX9_toldOfFarm_40 : decode cX9_toldOfFarm 40 = .ok (.ireturn, 1) := by decide +kernel
theorem dX9_toldOfOne_0 : decode cX9_toldOfOne 0 = .ok (.iload_n 1, 1) := by decide +kernel
theorem dX9_toldOfOne_1 : decode cX9_toldOfOne 1 = .ok (.iload_n 2, 1) := by decide +kernel
theorem dX9_toldOfOne_2 : decode cX9_toldOfOne 2 = .ok (.invokestatic 90, 3) := by decide +kernel
theorem dX9_toldOfOne_5 : decode cX9_toldOfOne 5 = .ok (.ifCond .eq 18, 3) := by decide +kernel
theorem dX9_toldOfOne_8 : decode cX9_toldOfOne 8 = .ok (.aload_n 0, 1) := by decide +kernel
theorem dX9_toldOfOne_9 : decode cX9_toldOfOne 9 = .ok (.getfield 12, 3) := by decide +kernel
theorem dX9_toldOfOne_12 : decode cX9_toldOfOne 12 = .ok (.getfield 98, 3) := by decide +kernel
theorem dX9_toldOfOne_15 : decode cX9_toldOfOne 15 = .ok (.iload_n 1, 1) := by decide +kernel
theorem dX9_toldOfOne_16 : decode cX9_toldOfOne 16 = .ok (.iload_n 2, 1) := by decide +kernel
theorem dX9_toldOfOne_17 : decode cX9_toldOfOne 17 = .ok (.invokevirtual 102, 3) := by decide +kernel
theorem dX9_toldOfOne_20 : decode cX9_toldOfOne 20 = .ok (.goto 5, 3) := by decide +kernel
theorem dX9_toldOfOne_23 : decode cX9_toldOfOne 23 = .ok (.bipush (-2), 2) := by decide +kernel
theorem dX9_toldOfOne_25 : decode cX9_toldOfOne 25 = .ok (.ireturn, 1) := by decide +kernel
theorem dX9_toldOfPair_0 : decode cX9_toldOfPair 0 = .ok (.iload_n 2, 1) := by decide +kernel
theorem dX9_toldOfPair_1 : decode cX9_toldOfPair 1 = .ok (.invokestatic 79, 3) := by decide +kernel
theorem dX9_toldOfPair_4 : decode cX9_toldOfPair 4 = .ok (.ifCond .eq 15, 3) := by decide +kernel
theorem dX9_toldOfPair_7 : decode cX9_toldOfPair 7 = .ok (.iload_n 3, 1) := by decide +kernel
theorem dX9_toldOfPair_8 : decode cX9_toldOfPair 8 = .ok (.invokestatic 79, 3) := by decide +kernel
theorem dX9_toldOfPair_11 : decode cX9_toldOfPair 11 = .ok (.ifCond .eq 8, 3) := by decide +kernel
theorem dX9_toldOfPair_14 : decode cX9_toldOfPair 14 = .ok (.iload_n 1, 1) := by decide +kernel
theorem dX9_toldOfPair_15 : decode cX9_toldOfPair 15 = .ok (.iconst 2, 1) := by decide +kernel
theorem dX9_toldOfPair_16 : decode cX9_toldOfPair 16 = .ok (.if_icmp .le 6, 3) := by decide +kernel
theorem dX9_toldOfPair_19 : decode cX9_toldOfPair 19 = .ok (.bipush (-2), 2) := by decide +kernel
theorem dX9_toldOfPair_21 : decode cX9_toldOfPair 21 = .ok (.ireturn, 1) := by decide +kernel
theorem dX9_toldOfPair_22 : decode cX9_toldOfPair 22 = .ok (.iload_n 1, 1) := by decide +kernel
theorem dX9_toldOfPair_23 : decode cX9_toldOfPair 23 = .ok (.iconst 1, 1) := by decide +kernel
theorem dX9_toldOfPair_24 : decode cX9_toldOfPair 24 = .ok (.if_icmp .ne 18, 3) := by decide +kernel
theorem dX9_toldOfPair_27 : decode cX9_toldOfPair 27 = .ok (.aload_n 0, 1) := by decide +kernel
theorem dX9_toldOfPair_28 : decode cX9_toldOfPair 28 = .ok (.getfield 12, 3) := by decide +kernel
theorem dX9_toldOfPair_31 : decode cX9_toldOfPair 31 = .ok (.getfield 61, 3) := by decide +kernel
theorem dX9_toldOfPair_34 : decode cX9_toldOfPair 34 = .ok (.iload_n 2, 1) := by decide +kernel
theorem dX9_toldOfPair_35 : decode cX9_toldOfPair 35 = .ok (.iload_n 3, 1) := by decide +kernel
theorem dX9_toldOfPair_36 : decode cX9_toldOfPair 36 = .ok (.invokevirtual 141, 3) := by decide +kernel
theorem dX9_toldOfPair_39 : decode cX9_toldOfPair 39 = .ok (.goto 15, 3) := by decide +kernel
theorem dX9_toldOfPair_42 : decode cX9_toldOfPair 42 = .ok (.aload_n 0, 1) := by decide +kernel
theorem dX9_toldOfPair_43 : decode cX9_toldOfPair 43 = .ok (.getfield 12, 3) := by decide +kernel
theorem dX9_toldOfPair_46 : decode cX9_toldOfPair 46 = .ok (.getfield 61, 3) := by decide +kernel
theorem dX9_toldOfPair_49 : decode cX9_toldOfPair 49 = .ok (.iload_n 2, 1) := by decide +kernel
theorem dX9_toldOfPair_50 : decode cX9_toldOfPair 50 = .ok (.iload_n 3, 1) := by decide +kernel
theorem dX9_toldOfPair_51 : decode cX9_toldOfPair 51 = .ok (.invokevirtual 72, 3) := by decide +kernel
theorem dX9_toldOfPair_54 : decode cX9_toldOfPair 54 = .ok (.ireturn, 1) := by decide +kernel
theorem dX9_isFarm_0 : decode cX9_isFarm 0 = .ok (.iload_n 0, 1) := by decide +kernel
theorem dX9_isFarm_1 : decode cX9_isFarm 1 = .ok (.ifCond .lt 13, 3) := by decide +kernel
theorem dX9_isFarm_4 : decode cX9_isFarm 4 = .ok (.iload_n 0, 1) := by decide +kernel
theorem dX9_isFarm_5 : decode cX9_isFarm 5 = .ok (.bipush 7, 2) := by decide +kernel
theorem dX9_isFarm_7 : decode cX9_isFarm 7 = .ok (.if_icmp .ge 7, 3) := by decide +kernel
theorem dX9_isFarm_10 : decode cX9_isFarm 10 = .ok (.iconst 1, 1) := by decide +kernel
theorem dX9_isFarm_11 : decode cX9_isFarm 11 = .ok (.goto 4, 3) := by decide +kernel
theorem dX9_isFarm_14 : decode cX9_isFarm 14 = .ok (.iconst 0, 1) := by decide +kernel
theorem dX9_isFarm_15 : decode cX9_isFarm 15 = .ok (.ireturn, 1) := by decide +kernel
theorem dX9_areTwoFarms_0 : decode cX9_areTwoFarms 0 = .ok (.iload_n 0, 1) := by decide +kernel
theorem dX9_areTwoFarms_1 : decode cX9_areTwoFarms 1 = .ok (.invokestatic 79, 3) := by decide +kernel
theorem dX9_areTwoFarms_4 : decode cX9_areTwoFarms 4 = .ok (.ifCond .eq 19, 3) := by decide +kernel
theorem dX9_areTwoFarms_7 : decode cX9_areTwoFarms 7 = .ok (.iload_n 1, 1) := by decide +kernel
theorem dX9_areTwoFarms_8 : decode cX9_areTwoFarms 8 = .ok (.invokestatic 79, 3) := by decide +kernel
theorem dX9_areTwoFarms_11 : decode cX9_areTwoFarms 11 = .ok (.ifCond .eq 12, 3) := by decide +kernel
theorem dX9_areTwoFarms_14 : decode cX9_areTwoFarms 14 = .ok (.iload_n 0, 1) := by decide +kernel
theorem dX9_areTwoFarms_15 : decode cX9_areTwoFarms 15 = .ok (.iload_n 1, 1) := by decide +kernel
theorem dX9_areTwoFarms_16 : decode cX9_areTwoFarms 16 = .ok (.if_icmp .eq 7, 3) := by decide +kernel
theorem dX9_areTwoFarms_19 : decode cX9_areTwoFarms 19 = .ok (.iconst 1, 1) := by decide +kernel
theorem dX9_areTwoFarms_20 : decode cX9_areTwoFarms 20 = .ok (.goto 4, 3) := by decide +kernel
theorem dX9_areTwoFarms_23 : decode cX9_areTwoFarms 23 = .ok (.iconst 0, 1) := by decide +kernel
theorem dX9_areTwoFarms_24 : decode cX9_areTwoFarms 24 = .ok (.ireturn, 1) := by decide +kernel
theorem dX9_isOne_0 : decode cX9_isOne 0 = .ok (.iload_n 0, 1) := by decide +kernel
theorem dX9_isOne_1 : decode cX9_isOne 1 = .ok (.invokestatic 120, 3) := by decide +kernel
theorem dX9_isOne_4 : decode cX9_isOne 4 = .ok (.ifCond .eq 16, 3) := by decide +kernel
theorem dX9_isOne_7 : decode cX9_isOne 7 = .ok (.iload_n 1, 1) := by decide +kernel
theorem dX9_isOne_8 : decode cX9_isOne 8 = .ok (.ifCond .lt 12, 3) := by decide +kernel
theorem dX9_isOne_11 : decode cX9_isOne 11 = .ok (.iload_n 1, 1) := by decide +kernel
theorem dX9_isOne_12 : decode cX9_isOne 12 = .ok (.iconst 4, 1) := by decide +kernel
theorem dX9_isOne_13 : decode cX9_isOne 13 = .ok (.if_icmp .ge 7, 3) := by decide +kernel
theorem dX9_isOne_16 : decode cX9_isOne 16 = .ok (.iconst 1, 1) := by decide +kernel
theorem dX9_isOne_17 : decode cX9_isOne 17 = .ok (.goto 4, 3) := by decide +kernel
theorem dX9_isOne_20 : decode cX9_isOne 20 = .ok (.iconst 0, 1) := by decide +kernel
theorem dX9_isOne_21 : decode cX9_isOne 21 = .ok (.ireturn, 1) := by decide +kernel
theorem dX9_isZeroOrOne_0 : decode cX9_isZeroOrOne 0 = .ok (.iload_n 0, 1) := by decide +kernel
theorem dX9_isZeroOrOne_1 : decode cX9_isZeroOrOne 1 = .ok (.ifCond .eq 8, 3) := by decide +kernel
theorem dX9_isZeroOrOne_4 : decode cX9_isZeroOrOne 4 = .ok (.iload_n 0, 1) := by decide +kernel
theorem dX9_isZeroOrOne_5 : decode cX9_isZeroOrOne 5 = .ok (.iconst 1, 1) := by decide +kernel
theorem dX9_isZeroOrOne_6 : decode cX9_isZeroOrOne 6 = .ok (.if_icmp .ne 7, 3) := by decide +kernel
theorem dX9_isZeroOrOne_9 : decode cX9_isZeroOrOne 9 = .ok (.iconst 1, 1) := by decide +kernel
theorem dX9_isZeroOrOne_10 : decode cX9_isZeroOrOne 10 = .ok (.goto 4, 3) := by decide +kernel
theorem dX9_isZeroOrOne_13 : decode cX9_isZeroOrOne 13 = .ok (.iconst 0, 1) := by decide +kernel
theorem dX9_isZeroOrOne_14 : decode cX9_isZeroOrOne 14 = .ok (.ireturn, 1) := by decide +kernel
theorem dX10_init_0 : decode cX10_init 0 = .ok (.aload_n 0, 1) := by decide +kernel
theorem dX10_init_1 : decode cX10_init 1 = .ok (.invokespecial 1, 3) := by decide +kernel
theorem dX10_init_4 : decode cX10_init 4 = .ok (.aload_n 0, 1) := by decide +kernel
theorem dX10_init_5 : decode cX10_init 5 = .ok (.bipush 64, 2) := by decide +kernel
theorem dX10_init_7 : decode cX10_init 7 = .ok (.newarray .int, 2) := by decide +kernel
theorem dX10_init_9 : decode cX10_init 9 = .ok (.putfield 7, 3) := by decide +kernel
theorem dX10_init_12 : decode cX10_init 12 = .ok (.aload_n 0, 1) := by decide +kernel
theorem dX10_init_13 : decode cX10_init 13 = .ok (.bipush 64, 2) := by decide +kernel
theorem dX10_init_15 : decode cX10_init 15 = .ok (.newarray .int, 2) := by decide +kernel
theorem dX10_init_17 : decode cX10_init 17 = .ok (.putfield 13, 3) := by decide +kernel
theorem dX10_init_20 : decode cX10_init 20 = .ok (.aload_n 0, 1) := by decide +kernel
theorem dX10_init_21 : decode cX10_init 21 = .ok (.bipush 49, 2) := by decide +kernel
theorem dX10_init_23 : decode cX10_init 23 = .ok (.newarray .int, 2) := by decide +kernel
theorem dX10_init_25 : decode cX10_init 25 = .ok (.putfield 16, 3) := by decide +kernel
theorem dX10_init_28 : decode cX10_init 28 = .ok (.aload_n 0, 1) := by decide +kernel
theorem dX10_init_29 : decode cX10_init 29 = .ok (.bipush 32, 2) := by decide +kernel
theorem dX10_init_31 : decode cX10_init 31 = .ok (.newarray .int, 2) := by decide +kernel
theorem dX10_init_33 : decode cX10_init 33 = .ok (.putfield 19, 3) := by decide +kernel
theorem dX10_init_36 : decode cX10_init 36 = .ok (.aload_n 0, 1) := by decide +kernel
theorem dX10_init_37 : decode cX10_init 37 = .ok (.bipush 24, 2) := by decide +kernel
theorem dX10_init_39 : decode cX10_init 39 = .ok (.newarray .int, 2) := by decide +kernel
theorem dX10_init_41 : decode cX10_init 41 = .ok (.putfield 22, 3) := by decide +kernel
theorem dX10_init_44 : decode cX10_init 44 = .ok (.aload_n 0, 1) := by decide +kernel
theorem dX10_init_45 : decode cX10_init 45 = .ok (.bipush 60, 2) := by decide +kernel
theorem dX10_init_47 : decode cX10_init 47 = .ok (.newarray .int, 2) := by decide +kernel
theorem dX10_init_49 : decode cX10_init 49 = .ok (.putfield 25, 3) := by decide +kernel
theorem dX10_init_52 : decode cX10_init 52 = .ok (.aload_n 0, 1) := by decide +kernel
theorem dX10_init_53 : decode cX10_init 53 = .ok (.bipush 49, 2) := by decide +kernel
theorem dX10_init_55 : decode cX10_init 55 = .ok (.newarray .int, 2) := by decide +kernel
theorem dX10_init_57 : decode cX10_init 57 = .ok (.putfield 28, 3) := by decide +kernel
theorem dX10_init_60 : decode cX10_init 60 = .ok (.aload_n 0, 1) := by decide +kernel
theorem dX10_init_61 : decode cX10_init 61 = .ok (.bipush 49, 2) := by decide +kernel
theorem dX10_init_63 : decode cX10_init 63 = .ok (.newarray .int, 2) := by decide +kernel
theorem dX10_init_65 : decode cX10_init 65 = .ok (.putfield 31, 3) := by decide +kernel
theorem dX10_init_68 : decode cX10_init 68 = .ok (.aload_n 0, 1) := by decide +kernel
theorem dX10_init_69 : decode cX10_init 69 = .ok (.sipush 896, 3) := by decide +kernel
theorem dX10_init_72 : decode cX10_init 72 = .ok (.newarray .int, 2) := by decide +kernel
theorem dX10_init_74 : decode cX10_init 74 = .ok (.putfield 34, 3) := by decide +kernel
theorem dX10_init_77 : decode cX10_init 77 = .ok (.aload_n 0, 1) := by decide +kernel
theorem dX10_init_78 : decode cX10_init 78 = .ok (.iconst 4, 1) := by decide +kernel
theorem dX10_init_79 : decode cX10_init 79 = .ok (.newarray .int, 2) := by decide +kernel
theorem dX10_init_81 : decode cX10_init 81 = .ok (.putfield 37, 3) := by decide +kernel
theorem dX10_init_84 : decode cX10_init 84 = .ok (.aload_n 0, 1) := by decide +kernel
theorem dX10_init_85 : decode cX10_init 85 = .ok (.iconst 4, 1) := by decide +kernel
theorem dX10_init_86 : decode cX10_init 86 = .ok (.newarray .int, 2) := by decide +kernel
theorem dX10_init_88 : decode cX10_init 88 = .ok (.putfield 40, 3) := by decide +kernel
theorem dX10_init_91 : decode cX10_init 91 = .ok (.aload_n 0, 1) := by decide +kernel
theorem dX10_init_92 : decode cX10_init 92 = .ok (.iconst 4, 1) := by decide +kernel
theorem dX10_init_93 : decode cX10_init 93 = .ok (.newarray .int, 2) := by decide +kernel
theorem dX10_init_95 : decode cX10_init 95 = .ok (.putfield 43, 3) := by decide +kernel
theorem dX10_init_98 : decode cX10_init 98 = .ok (.aload_n 0, 1) := by decide +kernel
theorem dX10_init_99 : decode cX10_init 99 = .ok (.sipush 410, 3) := by decide +kernel
theorem dX10_init_102 : decode cX10_init 102 = .ok (.newarray .int, 2) := by decide +kernel
theorem dX10_init_104 : decode cX10_init 104 = .ok (.putfield 46, 3) := by decide +kernel
theorem dX10_init_107 : decode cX10_init 107 = .ok (.aload_n 0, 1) := by decide +kernel
theorem dX10_init_108 : decode cX10_init 108 = .ok (.bipush 61, 2) := by decide +kernel
theorem dX10_init_110 : decode cX10_init 110 = .ok (.newarray .int, 2) := by decide +kernel
theorem dX10_init_112 : decode cX10_init 112 = .ok (.putfield 49, 3) := by decide +kernel
theorem dX10_init_115 : decode cX10_init 115 = .ok (.aload_n 0, 1) := by decide +kernel
theorem dX10_init_116 : decode cX10_init 116 = .ok (.bipush 64, 2) := by decide +kernel
theorem dX10_init_118 : decode cX10_init 118 = .ok (.newarray .boolean, 2) := by decide +kernel
theorem dX10_init_120 : decode cX10_init 120 = .ok (.putfield 52, 3) := by decide +kernel
theorem dX10_init_123 : decode cX10_init 123 = .ok (.aload_n 0, 1) := by decide +kernel
theorem dX10_init_124 : decode cX10_init 124 = .ok (.sipush 360, 3) := by decide +kernel
theorem dX10_init_127 : decode cX10_init 127 = .ok (.newarray .int, 2) := by decide +kernel
theorem dX10_init_129 : decode cX10_init 129 = .ok (.putfield 56, 3) := by decide +kernel
theorem dX10_init_132 : decode cX10_init 132 = .ok (.aload_n 0, 1) := by decide +kernel
theorem dX10_init_133 : decode cX10_init 133 = .ok (.iconst 2, 1) := by decide +kernel
theorem dX10_init_134 : decode cX10_init 134 = .ok (.newarray .boolean, 2) := by decide +kernel
theorem dX10_init_136 : decode cX10_init 136 = .ok (.putfield 59, 3) := by decide +kernel
theorem dX10_init_139 : decode cX10_init 139 = .ok (.iconst 0, 1) := by decide +kernel
theorem dX10_init_140 : decode cX10_init 140 = .ok (.istore_n 1, 1) := by decide +kernel
theorem dX10_init_141 : decode cX10_init 141 = .ok (.iload_n 1, 1) := by decide +kernel
theorem dX10_init_142 : decode cX10_init 142 = .ok (.bipush 49, 2) := by decide +kernel
theorem dX10_init_144 : decode cX10_init 144 = .ok (.if_icmp .ge 17, 3) := by decide +kernel
theorem dX10_init_147 : decode cX10_init 147 = .ok (.aload_n 0, 1) := by decide +kernel
theorem dX10_init_148 : decode cX10_init 148 = .ok (.getfield 7, 3) := by decide +kernel
theorem dX10_init_151 : decode cX10_init 151 = .ok (.iload_n 1, 1) := by decide +kernel
theorem dX10_init_152 : decode cX10_init 152 = .ok (.bipush (-6), 2) := by decide +kernel
theorem dX10_init_154 : decode cX10_init 154 = .ok (.iastore, 1) := by decide +kernel
theorem dX10_init_155 : decode cX10_init 155 = .ok (.iinc 1 1, 3) := by decide +kernel
theorem dX10_init_158 : decode cX10_init 158 = .ok (.goto (-17), 3) := by decide +kernel
theorem dX10_init_161 : decode cX10_init 161 = .ok (.iconst 0, 1) := by decide +kernel
theorem dX10_init_162 : decode cX10_init 162 = .ok (.istore_n 1, 1) := by decide +kernel
theorem dX10_init_163 : decode cX10_init 163 = .ok (.iload_n 1, 1) := by decide +kernel
theorem dX10_init_164 : decode cX10_init 164 = .ok (.bipush 7, 2) := by decide +kernel
theorem dX10_init_166 : decode cX10_init 166 = .ok (.if_icmp .ge 29, 3) := by decide +kernel
theorem dX10_init_169 : decode cX10_init 169 = .ok (.aload_n 0, 1) := by decide +kernel
theorem dX10_init_170 : decode cX10_init 170 = .ok (.getfield 7, 3) := by decide +kernel
theorem dX10_init_173 : decode cX10_init 173 = .ok (.bipush 49, 2) := by decide +kernel
theorem dX10_init_175 : decode cX10_init 175 = .ok (.iload_n 1, 1) := by decide +kernel
theorem dX10_init_176 : decode cX10_init 176 = .ok (.iadd, 1) := by decide +kernel
theorem dX10_init_177 : decode cX10_init 177 = .ok (.iload_n 1, 1) := by decide +kernel
theorem dX10_init_178 : decode cX10_init 178 = .ok (.iastore, 1) := by decide +kernel
theorem dX10_init_179 : decode cX10_init 179 = .ok (.aload_n 0, 1) := by decide +kernel
theorem dX10_init_180 : decode cX10_init 180 = .ok (.getfield 7, 3) := by decide +kernel
theorem dX10_init_183 : decode cX10_init 183 = .ok (.bipush 56, 2) := by decide +kernel
theorem dX10_init_185 : decode cX10_init 185 = .ok (.iload_n 1, 1) := by decide +kernel
theorem dX10_init_186 : decode cX10_init 186 = .ok (.iadd, 1) := by decide +kernel
theorem dX10_init_187 : decode cX10_init 187 = .ok (.iconst 5, 1) := by decide +kernel
theorem dX10_init_188 : decode cX10_init 188 = .ok (.iastore, 1) := by decide +kernel
theorem dX10_init_189 : decode cX10_init 189 = .ok (.iinc 1 1, 3) := by decide +kernel
theorem dX10_init_192 : decode cX10_init 192 = .ok (.goto (-29), 3) := by decide +kernel
theorem dX10_init_195 : decode cX10_init 195 = .ok (.iconst 0, 1) := by decide +kernel
theorem dX10_init_196 : decode cX10_init 196 = .ok (.istore_n 1, 1) := by decide +kernel
theorem dX10_init_197 : decode cX10_init 197 = .ok (.iload_n 1, 1) := by decide +kernel
theorem dX10_init_198 : decode cX10_init 198 = .ok (.bipush 32, 2) := by decide +kernel
theorem dX10_init_200 : decode cX10_init 200 = .ok (.if_icmp .ge 18, 3) := by decide +kernel
theorem dX10_init_203 : decode cX10_init 203 = .ok (.aload_n 0, 1) := by decide +kernel
theorem dX10_init_204 : decode cX10_init 204 = .ok (.getfield 19, 3) := by decide +kernel
theorem dX10_init_207 : decode cX10_init 207 = .ok (.iload_n 1, 1) := by decide +kernel
theorem dX10_init_208 : decode cX10_init 208 = .ok (.iload_n 1, 1) := by decide +kernel
theorem dX10_init_209 : decode cX10_init 209 = .ok (.iconst 4, 1) := by decide +kernel
theorem dX10_init_210 : decode cX10_init 210 = .ok (.irem, 1) := by decide +kernel
theorem dX10_init_211 : decode cX10_init 211 = .ok (.iastore, 1) := by decide +kernel
theorem dX10_init_212 : decode cX10_init 212 = .ok (.iinc 1 1, 3) := by decide +kernel
theorem dX10_init_215 : decode cX10_init 215 = .ok (.goto (-18), 3) := by decide +kernel
theorem dX10_init_218 : decode cX10_init 218 = .ok (.return_, 1) := by decide +kernel
theorem dX10_in_0 : decode cX10_in 0 = .ok (.iload_n 0, 1) := by decide +kernel
theorem dX10_in_1 : decode cX10_in 1 = .ok (.iload_n 1, 1) := by decide +kernel
theorem dX10_in_2 : decode cX10_in 2 = .ok (.if_icmp .lt 12, 3) := by decide +kernel
theorem dX10_in_5 : decode cX10_in 5 = .ok (.iload_n 0, 1) := by decide +kernel
theorem dX10_in_6 : decode cX10_in 6 = .ok (.iload_n 2, 1) := by decide +kernel
theorem dX10_in_7 : decode cX10_in 7 = .ok (.if_icmp .gt 7, 3) := by decide +kernel
theorem dX10_in_10 : decode cX10_in 10 = .ok (.iconst 1, 1) := by decide +kernel
theorem dX10_in_11 : decode cX10_in 11 = .ok (.goto 4, 3) := by decide +kernel
theorem dX10_in_14 : decode cX10_in 14 = .ok (.iconst 0, 1) := by decide +kernel
theorem dX10_in_15 : decode cX10_in 15 = .ok (.ireturn, 1) := by decide +kernel
theorem dX10_has_0 : decode cX10_has 0 = .ok (.iload_n 0, 1) := by decide +kernel
theorem dX10_has_1 : decode cX10_has 1 = .ok (.iload_n 1, 1) := by decide +kernel
theorem dX10_has_2 : decode cX10_has 2 = .ok (.ishr, 1) := by decide +kernel
theorem dX10_has_3 : decode cX10_has 3 = .ok (.iconst 1, 1) := by decide +kernel
theorem dX10_has_4 : decode cX10_has 4 = .ok (.iand, 1) := by decide +kernel
theorem dX10_has_5 : decode cX10_has 5 = .ok (.iconst 1, 1) := by decide +kernel
theorem dX10_has_6 : decode cX10_has 6 = .ok (.if_icmp .ne 7, 3) := by decide +kernel
theorem dX10_has_9 : decode cX10_has 9 = .ok (.iconst 1, 1) := by decide +kernel
theorem dX10_has_10 : decode cX10_has 10 = .ok (.goto 4, 3) := by decide +kernel
theorem dX10_has_13 : decode cX10_has 13 = .ok (.iconst 0, 1) := by decide +kernel
theorem dX10_has_14 : decode cX10_has 14 = .ok (.ireturn, 1) := by decide +kernel
theorem dX10_isFarm_0 : decode cX10_isFarm 0 = .ok (.iload_n 0, 1) := by decide +kernel
theorem dX10_isFarm_1 : decode cX10_isFarm 1 = .ok (.iconst 0, 1) := by decide +kernel
theorem dX10_isFarm_2 : decode cX10_isFarm 2 = .ok (.bipush 6, 2) := by decide +kernel
theorem dX10_isFarm_4 : decode cX10_isFarm 4 = .ok (.invokestatic 62, 3) := by decide +kernel
theorem dX10_isFarm_7 : decode cX10_isFarm 7 = .ok (.ireturn, 1) := by decide +kernel
theorem dX10_pale_0 : decode cX10_pale 0 = .ok (.iload_n 1, 1) := by decide +kernel
theorem dX10_pale_1 : decode cX10_pale 1 = .ok (.invokestatic 66, 3) := by decide +kernel
theorem dX10_pale_4 : decode cX10_pale 4 = .ok (.ifCond .eq 15, 3) := by decide +kernel
theorem dX10_pale_7 : decode cX10_pale 7 = .ok (.iload_n 2, 1) := by decide +kernel
theorem dX10_pale_8 : decode cX10_pale 8 = .ok (.invokestatic 66, 3) := by decide +kernel
theorem dX10_pale_11 : decode cX10_pale 11 = .ok (.ifCond .eq 8, 3) := by decide +kernel
theorem dX10_pale_14 : decode cX10_pale 14 = .ok (.iload_n 1, 1) := by decide +kernel
theorem dX10_pale_15 : decode cX10_pale 15 = .ok (.iload_n 2, 1) := by decide +kernel
theorem dX10_pale_16 : decode cX10_pale 16 = .ok (.if_icmp .ne 5, 3) := by decide +kernel
theorem dX10_pale_19 : decode cX10_pale 19 = .ok (.iconst (-1), 1) := by decide +kernel
theorem dX10_pale_20 : decode cX10_pale 20 = .ok (.ireturn, 1) := by decide +kernel
theorem dX10_pale_21 : decode cX10_pale 21 = .ok (.iload_n 3, 1) := by decide +kernel
theorem dX10_pale_22 : decode cX10_pale 22 = .ok (.iconst (-1), 1) := by decide +kernel
theorem dX10_pale_23 : decode cX10_pale 23 = .ok (.bipush 9, 2) := by decide +kernel
theorem dX10_pale_25 : decode cX10_pale 25 = .ok (.invokestatic 62, 3) := by decide +kernel
theorem dX10_pale_28 : decode cX10_pale 28 = .ok (.ifCond .ne 6, 3) := by decide +kernel
theorem dX10_pale_31 : decode cX10_pale 31 = .ok (.bipush (-2), 2) := by decide +kernel
theorem dX10_pale_33 : decode cX10_pale 33 = .ok (.ireturn, 1) := by decide +kernel
theorem dX10_pale_34 : decode cX10_pale 34 = .ok (.aload_n 0, 1) := by decide +kernel
theorem dX10_pale_35 : decode cX10_pale 35 = .ok (.getfield 7, 3) := by decide +kernel
theorem dX10_pale_38 : decode cX10_pale 38 = .ok (.bipush 7, 2) := by decide +kernel
theorem dX10_pale_40 : decode cX10_pale 40 = .ok (.iload_n 1, 1) := by decide +kernel
theorem dX10_pale_41 : decode cX10_pale 41 = .ok (.imul, 1) := by decide +kernel
theorem dX10_pale_42 : decode cX10_pale 42 = .ok (.iload_n 2, 1) := by decide +kernel
theorem dX10_pale_43 : decode cX10_pale 43 = .ok (.iadd, 1) := by decide +kernel
theorem dX10_pale_44 : decode cX10_pale 44 = .ok (.iload_n 3, 1) := by decide +kernel
theorem dX10_pale_45 : decode cX10_pale 45 = .ok (.ifCond .ge 8, 3) := by decide +kernel
theorem dX10_pale_48 : decode cX10_pale 48 = .ok (.bipush (-6), 2) := by decide +kernel
theorem dX10_pale_50 : decode cX10_pale 50 = .ok (.goto 4, 3) := by decide +kernel
theorem dX10_pale_53 : decode cX10_pale 53 = .ok (.iload_n 3, 1) := by decide +kernel
theorem dX10_pale_54 : decode cX10_pale 54 = .ok (.iastore, 1) := by decide +kernel
theorem dX10_pale_55 : decode cX10_pale 55 = .ok (.aload_n 0, 1) := by decide +kernel
theorem dX10_pale_56 : decode cX10_pale 56 = .ok (.getfield 7, 3) := by decide +kernel
theorem dX10_pale_59 : decode cX10_pale 59 = .ok (.bipush 7, 2) := by decide +kernel
theorem dX10_pale_61 : decode cX10_pale 61 = .ok (.iload_n 2, 1) := by decide +kernel
theorem dX10_pale_62 : decode cX10_pale 62 = .ok (.imul, 1) := by decide +kernel
theorem dX10_pale_63 : decode cX10_pale 63 = .ok (.iload_n 1, 1) := by decide +kernel
theorem dX10_pale_64 : decode cX10_pale 64 = .ok (.iadd, 1) := by decide +kernel
theorem dX10_pale_65 : decode cX10_pale 65 = .ok (.iload_n 3, 1) := by decide +kernel
theorem dX10_pale_66 : decode cX10_pale 66 = .ok (.ifCond .ge 8, 3) := by decide +kernel
theorem dX10_pale_69 : decode cX10_pale 69 = .ok (.bipush (-6), 2) := by decide +kernel
theorem dX10_pale_71 : decode cX10_pale 71 = .ok (.goto 4, 3) := by decide +kernel
theorem dX10_pale_74 : decode cX10_pale 74 = .ok (.iload_n 3, 1) := by decide +kernel
theorem dX10_pale_75 : decode cX10_pale 75 = .ok (.iastore, 1) := by decide +kernel
theorem dX10_pale_76 : decode cX10_pale 76 = .ok (.aload_n 0, 1) := by decide +kernel
theorem dX10_pale_77 : decode cX10_pale 77 = .ok (.invokevirtual 70, 3) := by decide +kernel
theorem dX10_pale_80 : decode cX10_pale 80 = .ok (.aload_n 0, 1) := by decide +kernel
theorem dX10_pale_81 : decode cX10_pale 81 = .ok (.bipush 9, 2) := by decide +kernel
theorem dX10_pale_83 : decode cX10_pale 83 = .ok (.invokevirtual 73, 3) := by decide +kernel
theorem dX10_pale_86 : decode cX10_pale 86 = .ok (.ireturn, 1) := by decide +kernel
theorem dX10_road_0 : decode cX10_road 0 = .ok (.iload_n 1, 1) := by decide +kernel
theorem dX10_road_1 : decode cX10_road 1 = .ok (.invokestatic 66, 3) := by decide +kernel
theorem dX10_road_4 : decode cX10_road 4 = .ok (.ifCond .eq 15, 3) := by decide +kernel
theorem dX10_road_7 : decode cX10_road 7 = .ok (.iload_n 2, 1) := by decide +kernel
theorem dX10_road_8 : decode cX10_road 8 = .ok (.invokestatic 66, 3) := by decide +kernel
theorem dX10_road_11 : decode cX10_road 11 = .ok (.ifCond .eq 8, 3) := by decide +kernel
theorem dX10_road_14 : decode cX10_road 14 = .ok (.iload_n 1, 1) := by decide +kernel
theorem dX10_road_15 : decode cX10_road 15 = .ok (.iload_n 2, 1) := by decide +kernel
theorem dX10_road_16 : decode cX10_road 16 = .ok (.if_icmp .ne 5, 3) := by decide +kernel
theorem dX10_road_19 : decode cX10_road 19 = .ok (.iconst (-1), 1) := by decide +kernel
theorem dX10_road_20 : decode cX10_road 20 = .ok (.ireturn, 1) := by decide +kernel
theorem dX10_road_21 : decode cX10_road 21 = .ok (.iload_n 3, 1) := by decide +kernel
theorem dX10_road_22 : decode cX10_road 22 = .ok (.iconst 0, 1) := by decide +kernel
theorem dX10_road_23 : decode cX10_road 23 = .ok (.bipush 9, 2) := by decide +kernel
theorem dX10_road_25 : decode cX10_road 25 = .ok (.invokestatic 62, 3) := by decide +kernel
theorem dX10_road_28 : decode cX10_road 28 = .ok (.ifCond .ne 6, 3) := by decide +kernel
theorem dX10_road_31 : decode cX10_road 31 = .ok (.bipush (-2), 2) := by decide +kernel
theorem dX10_road_33 : decode cX10_road 33 = .ok (.ireturn, 1) := by decide +kernel
theorem dX10_road_34 : decode cX10_road 34 = .ok (.aload_n 0, 1) := by decide +kernel
theorem dX10_road_35 : decode cX10_road 35 = .ok (.getfield 16, 3) := by decide +kernel
theorem dX10_road_38 : decode cX10_road 38 = .ok (.bipush 7, 2) := by decide +kernel
theorem dX10_road_40 : decode cX10_road 40 = .ok (.iload_n 1, 1) := by decide +kernel
theorem dX10_road_41 : decode cX10_road 41 = .ok (.imul, 1) := by decide +kernel
theorem dX10_road_42 : decode cX10_road 42 = .ok (.iload_n 2, 1) := by decide +kernel
theorem dX10_road_43 : decode cX10_road 43 = .ok (.iadd, 1) := by decide +kernel
theorem dX10_road_44 : decode cX10_road 44 = .ok (.iaload, 1) := by decide +kernel
theorem dX10_road_45 : decode cX10_road 45 = .ok (.istore 4, 2) := by decide +kernel
theorem dX10_road_47 : decode cX10_road 47 = .ok (.aload_n 0, 1) := by decide +kernel
theorem dX10_road_48 : decode cX10_road 48 = .ok (.getfield 16, 3) := by decide +kernel
theorem dX10_road_51 : decode cX10_road 51 = .ok (.bipush 7, 2) := by decide +kernel
theorem dX10_road_53 : decode cX10_road 53 = .ok (.iload_n 1, 1) := by decide +kernel
theorem dX10_road_54 : decode cX10_road 54 = .ok (.imul, 1) := by decide +kernel
theorem dX10_road_55 : decode cX10_road 55 = .ok (.iload_n 2, 1) := by decide +kernel
theorem dX10_road_56 : decode cX10_road 56 = .ok (.iadd, 1) := by decide +kernel
theorem dX10_road_57 : decode cX10_road 57 = .ok (.iload_n 3, 1) := by decide +kernel
theorem dX10_road_58 : decode cX10_road 58 = .ok (.iastore, 1) := by decide +kernel
theorem dX10_road_59 : decode cX10_road 59 = .ok (.aload_n 0, 1) := by decide +kernel
theorem dX10_road_60 : decode cX10_road 60 = .ok (.getfield 16, 3) := by decide +kernel
theorem dX10_road_63 : decode cX10_road 63 = .ok (.bipush 7, 2) := by decide +kernel
theorem dX10_road_65 : decode cX10_road 65 = .ok (.iload_n 2, 1) := by decide +kernel
theorem dX10_road_66 : decode cX10_road 66 = .ok (.imul, 1) := by decide +kernel
theorem dX10_road_67 : decode cX10_road 67 = .ok (.iload_n 1, 1) := by decide +kernel
theorem dX10_road_68 : decode cX10_road 68 = .ok (.iadd, 1) := by decide +kernel
theorem dX10_road_69 : decode cX10_road 69 = .ok (.iload_n 3, 1) := by decide +kernel
theorem dX10_road_70 : decode cX10_road 70 = .ok (.iastore, 1) := by decide +kernel
theorem dX10_road_71 : decode cX10_road 71 = .ok (.iload 4, 2) := by decide +kernel
theorem dX10_road_73 : decode cX10_road 73 = .ok (.ireturn, 1) := by decide +kernel
theorem dX10_farm_0 : decode cX10_farm 0 = .ok (.iload_n 1, 1) := by decide +kernel
theorem dX10_farm_1 : decode cX10_farm 1 = .ok (.invokestatic 66, 3) := by decide +kernel
theorem dX10_farm_4 : decode cX10_farm 4 = .ok (.ifCond .eq 10, 3) := by decide +kernel
theorem dX10_farm_7 : decode cX10_farm 7 = .ok (.iload_n 3, 1) := by decide +kernel
theorem dX10_farm_8 : decode cX10_farm 8 = .ok (.invokestatic 66, 3) := by decide +kernel
theorem dX10_farm_11 : decode cX10_farm 11 = .ok (.ifCond .ne 5, 3) := by decide +kernel
theorem dX10_farm_14 : decode cX10_farm 14 = .ok (.iconst (-1), 1) := by decide +kernel
theorem dX10_farm_15 : decode cX10_farm 15 = .ok (.ireturn, 1) := by decide +kernel
theorem dX10_farm_16 : decode cX10_farm 16 = .ok (.iload_n 2, 1) := by decide +kernel
theorem dX10_farm_17 : decode cX10_farm 17 = .ok (.iconst 0, 1) := by decide +kernel
theorem dX10_farm_18 : decode cX10_farm 18 = .ok (.bipush 99, 2) := by decide +kernel
theorem dX10_farm_20 : decode cX10_farm 20 = .ok (.invokestatic 62, 3) := by decide +kernel
theorem dX10_farm_23 : decode cX10_farm 23 = .ok (.ifCond .ne 6, 3) := by decide +kernel
theorem dX10_farm_26 : decode cX10_farm 26 = .ok (.bipush (-2), 2) := by decide +kernel
theorem dX10_farm_28 : decode cX10_farm 28 = .ok (.ireturn, 1) := by decide +kernel
theorem dX10_farm_29 : decode cX10_farm 29 = .ok (.aload_n 0, 1) := by decide +kernel
theorem dX10_farm_30 : decode cX10_farm 30 = .ok (.getfield 7, 3) := by decide +kernel
theorem dX10_farm_33 : decode cX10_farm 33 = .ok (.bipush 49, 2) := by decide +kernel
theorem dX10_farm_35 : decode cX10_farm 35 = .ok (.iload_n 1, 1) := by decide +kernel
theorem dX10_farm_36 : decode cX10_farm 36 = .ok (.iadd, 1) := by decide +kernel
theorem dX10_farm_37 : decode cX10_farm 37 = .ok (.iaload, 1) := by decide +kernel
theorem dX10_farm_38 : decode cX10_farm 38 = .ok (.istore 4, 2) := by decide +kernel
theorem dX10_farm_40 : decode cX10_farm 40 = .ok (.aload_n 0, 1) := by decide +kernel
theorem dX10_farm_41 : decode cX10_farm 41 = .ok (.getfield 7, 3) := by decide +kernel
theorem dX10_farm_44 : decode cX10_farm 44 = .ok (.bipush 49, 2) := by decide +kernel
theorem dX10_farm_46 : decode cX10_farm 46 = .ok (.iload_n 1, 1) := by decide +kernel
theorem dX10_farm_47 : decode cX10_farm 47 = .ok (.iadd, 1) := by decide +kernel
theorem dX10_farm_48 : decode cX10_farm 48 = .ok (.iload_n 3, 1) := by decide +kernel
theorem dX10_farm_49 : decode cX10_farm 49 = .ok (.iastore, 1) := by decide +kernel
theorem dX10_farm_50 : decode cX10_farm 50 = .ok (.aload_n 0, 1) := by decide +kernel
theorem dX10_farm_51 : decode cX10_farm 51 = .ok (.getfield 7, 3) := by decide +kernel
theorem dX10_farm_54 : decode cX10_farm 54 = .ok (.bipush 56, 2) := by decide +kernel
theorem dX10_farm_56 : decode cX10_farm 56 = .ok (.iload_n 1, 1) := by decide +kernel
theorem dX10_farm_57 : decode cX10_farm 57 = .ok (.iadd, 1) := by decide +kernel
theorem dX10_farm_58 : decode cX10_farm 58 = .ok (.iload_n 2, 1) := by decide +kernel
theorem dX10_farm_59 : decode cX10_farm 59 = .ok (.iastore, 1) := by decide +kernel
theorem dX10_farm_60 : decode cX10_farm 60 = .ok (.iload 4, 2) := by decide +kernel
theorem dX10_farm_62 : decode cX10_farm 62 = .ok (.ireturn, 1) := by decide +kernel
theorem dX10_rowOf_0 : decode cX10_rowOf 0 = .ok (.iconst 0, 1) := by decide +kernel
theorem dX10_rowOf_1 : decode cX10_rowOf 1 = .ok (.istore_n 3, 1) := by decide +kernel
theorem dX10_rowOf_2 : decode cX10_rowOf 2 = .ok (.iconst 0, 1) := by decide +kernel
theorem dX10_rowOf_3 : decode cX10_rowOf 3 = .ok (.istore 4, 2) := by decide +kernel
theorem dX10_rowOf_5 : decode cX10_rowOf 5 = .ok (.iload 4, 2) := by decide +kernel
theorem dX10_rowOf_7 : decode cX10_rowOf 7 = .ok (.iconst 4, 1) := by decide +kernel
theorem dX10_rowOf_8 : decode cX10_rowOf 8 = .ok (.if_icmp .ge 31, 3) := by decide +kernel
theorem dX10_rowOf_11 : decode cX10_rowOf 11 = .ok (.bipush 10, 2) := by decide +kernel
theorem dX10_rowOf_13 : decode cX10_rowOf 13 = .ok (.iload_n 3, 1) := by decide +kernel
theorem dX10_rowOf_14 : decode cX10_rowOf 14 = .ok (.imul, 1) := by decide +kernel
theorem dX10_rowOf_15 : decode cX10_rowOf 15 = .ok (.aload_n 0, 1) := by decide +kernel
theorem dX10_rowOf_16 : decode cX10_rowOf 16 = .ok (.getfield 19, 3) := by decide +kernel
theorem dX10_rowOf_19 : decode cX10_rowOf 19 = .ok (.bipush 16, 2) := by decide +kernel
theorem dX10_rowOf_21 : decode cX10_rowOf 21 = .ok (.iload_n 1, 1) := by decide +kernel
theorem dX10_rowOf_22 : decode cX10_rowOf 22 = .ok (.imul, 1) := by decide +kernel
theorem dX10_rowOf_23 : decode cX10_rowOf 23 = .ok (.iconst 4, 1) := by decide +kernel
theorem dX10_rowOf_24 : decode cX10_rowOf 24 = .ok (.iload_n 2, 1) := by decide +kernel
theorem dX10_rowOf_25 : decode cX10_rowOf 25 = .ok (.imul, 1) := by decide +kernel
theorem dX10_rowOf_26 : decode cX10_rowOf 26 = .ok (.iadd, 1) := by decide +kernel
theorem dX10_rowOf_27 : decode cX10_rowOf 27 = .ok (.iload 4, 2) := by decide +kernel
theorem dX10_rowOf_29 : decode cX10_rowOf 29 = .ok (.iadd, 1) := by decide +kernel
theorem dX10_rowOf_30 : decode cX10_rowOf 30 = .ok (.iaload, 1) := by decide +kernel
theorem dX10_rowOf_31 : decode cX10_rowOf 31 = .ok (.iadd, 1) := by decide +kernel
theorem dX10_rowOf_32 : decode cX10_rowOf 32 = .ok (.istore_n 3, 1) := by decide +kernel
theorem dX10_rowOf_33 : decode cX10_rowOf 33 = .ok (.iinc 4 1, 3) := by decide +kernel
theorem dX10_rowOf_36 : decode cX10_rowOf 36 = .ok (.goto (-31), 3) := by decide +kernel
theorem dX10_rowOf_39 : decode cX10_rowOf 39 = .ok (.iload_n 3, 1) := by decide +kernel
theorem dX10_rowOf_40 : decode cX10_rowOf 40 = .ok (.ireturn, 1) := by decide +kernel
theorem dX10_likes_0 : decode cX10_likes 0 = .ok (.iload_n 1, 1) := by decide +kernel
theorem dX10_likes_1 : decode cX10_likes 1 = .ok (.iconst 0, 1) := by decide +kernel
theorem dX10_likes_2 : decode cX10_likes 2 = .ok (.iconst 1, 1) := by decide +kernel
theorem dX10_likes_3 : decode cX10_likes 3 = .ok (.invokestatic 62, 3) := by decide +kernel
theorem dX10_likes_6 : decode cX10_likes 6 = .ok (.ifCond .eq 12, 3) := by decide +kernel
theorem dX10_likes_9 : decode cX10_likes 9 = .ok (.iload_n 2, 1) := by decide +kernel
theorem dX10_likes_10 : decode cX10_likes 10 = .ok (.iconst 0, 1) := by decide +kernel
theorem dX10_likes_11 : decode cX10_likes 11 = .ok (.iconst 3, 1) := by decide +kernel
theorem dX10_likes_12 : decode cX10_likes 12 = .ok (.invokestatic 62, 3) := by decide +kernel
theorem dX10_likes_15 : decode cX10_likes 15 = .ok (.ifCond .ne 5, 3) := by decide +kernel
theorem dX10_likes_18 : decode cX10_likes 18 = .ok (.iconst (-1), 1) := by decide +kernel
theorem dX10_likes_19 : decode cX10_likes 19 = .ok (.ireturn, 1) := by decide +kernel
theorem dX10_likes_20 : decode cX10_likes 20 = .ok (.iconst 0, 1) := by decide +kernel
theorem dX10_likes_21 : decode cX10_likes 21 = .ok (.istore 4, 2) := by decide +kernel
theorem dX10_likes_23 : decode cX10_likes 23 = .ok (.iload_n 3, 1) := by decide +kernel
theorem dX10_likes_24 : decode cX10_likes 24 = .ok (.istore 5, 2) := by decide +kernel
theorem dX10_likes_26 : decode cX10_likes 26 = .ok (.iconst 0, 1) := by decide +kernel
theorem dX10_likes_27 : decode cX10_likes 27 = .ok (.istore 6, 2) := by decide +kernel
theorem dX10_likes_29 : decode cX10_likes 29 = .ok (.iload 6, 2) := by decide +kernel
theorem dX10_likes_31 : decode cX10_likes 31 = .ok (.iconst 4, 1) := by decide +kernel
theorem dX10_likes_32 : decode cX10_likes 32 = .ok (.if_icmp .ge 32, 3) := by decide +kernel
theorem dX10_likes_35 : decode cX10_likes 35 = .ok (.iload_n 3, 1) := by decide +kernel
theorem dX10_likes_36 : decode cX10_likes 36 = .ok (.ifCond .lt 28, 3) := by decide +kernel
theorem dX10_likes_39 : decode cX10_likes 39 = .ok (.iload 4, 2) := by decide +kernel
theorem dX10_likes_41 : decode cX10_likes 41 = .ok (.iconst 1, 1) := by decide +kernel
theorem dX10_likes_42 : decode cX10_likes 42 = .ok (.iload 5, 2) := by decide +kernel
theorem dX10_likes_44 : decode cX10_likes 44 = .ok (.bipush 10, 2) := by decide +kernel
theorem dX10_likes_46 : decode cX10_likes 46 = .ok (.irem, 1) := by decide +kernel
theorem dX10_likes_47 : decode cX10_likes 47 = .ok (.ishl, 1) := by decide +kernel
theorem dX10_likes_48 : decode cX10_likes 48 = .ok (.ior, 1) := by decide +kernel
theorem dX10_likes_49 : decode cX10_likes 49 = .ok (.istore 4, 2) := by decide +kernel
theorem dX10_likes_51 : decode cX10_likes 51 = .ok (.iload 5, 2) := by decide +kernel
theorem dX10_likes_53 : decode cX10_likes 53 = .ok (.bipush 10, 2) := by decide +kernel
theorem dX10_likes_55 : decode cX10_likes 55 = .ok (.idiv, 1) := by decide +kernel
theorem dX10_likes_56 : decode cX10_likes 56 = .ok (.istore 5, 2) := by decide +kernel
theorem dX10_likes_58 : decode cX10_likes 58 = .ok (.iinc 6 1, 3) := by decide +kernel
theorem dX10_likes_61 : decode cX10_likes 61 = .ok (.goto (-32), 3) := by decide +kernel
theorem dX10_likes_64 : decode cX10_likes 64 = .ok (.iload 4, 2) := by decide +kernel
theorem dX10_likes_66 : decode cX10_likes 66 = .ok (.bipush 15, 2) := by decide +kernel
theorem dX10_likes_68 : decode cX10_likes 68 = .ok (.if_icmp .ne 8, 3) := by decide +kernel
theorem dX10_likes_71 : decode cX10_likes 71 = .ok (.iload 5, 2) := by decide +kernel
theorem dX10_likes_73 : decode cX10_likes 73 = .ok (.ifCond .eq 6, 3) := by decide +kernel
theorem dX10_likes_76 : decode cX10_likes 76 = .ok (.bipush (-2), 2) := by decide +kernel
theorem dX10_likes_78 : decode cX10_likes 78 = .ok (.ireturn, 1) := by decide +kernel
theorem dX10_likes_79 : decode cX10_likes 79 = .ok (.aload_n 0, 1) := by decide +kernel
theorem dX10_likes_80 : decode cX10_likes 80 = .ok (.iload_n 1, 1) := by decide +kernel
theorem dX10_likes_81 : decode cX10_likes 81 = .ok (.iload_n 2, 1) := by decide +kernel
theorem dX10_likes_82 : decode cX10_likes 82 = .ok (.invokevirtual 77, 3) := by decide +kernel
theorem dX10_likes_85 : decode cX10_likes 85 = .ok (.istore 6, 2) := by decide +kernel
theorem dX10_likes_87 : decode cX10_likes 87 = .ok (.iload_n 3, 1) := by decide +kernel
theorem dX10_likes_88 : decode cX10_likes 88 = .ok (.istore 5, 2) := by decide +kernel
theorem dX10_likes_90 : decode cX10_likes 90 = .ok (.iconst 3, 1) := by decide +kernel
theorem dX10_likes_91 : decode cX10_likes 91 = .ok (.istore 7, 2) := by decide +kernel
theorem dX10_likes_93 : decode cX10_likes 93 = .ok (.iload 7, 2) := by decide +kernel
theorem dX10_likes_95 : decode cX10_likes 95 = .ok (.ifCond .lt 37, 3) := by decide +kernel
theorem dX10_likes_98 : decode cX10_likes 98 = .ok (.aload_n 0, 1) := by decide +kernel
theorem dX10_likes_99 : decode cX10_likes 99 = .ok (.getfield 19, 3) := by decide +kernel
theorem dX10_likes_102 : decode cX10_likes 102 = .ok (.bipush 16, 2) := by decide +kernel
theorem dX10_likes_104 : decode cX10_likes 104 = .ok (.iload_n 1, 1) := by decide +kernel
theorem dX10_likes_105 : decode cX10_likes 105 = .ok (.imul, 1) := by decide +kernel
theorem dX10_likes_106 : decode cX10_likes 106 = .ok (.iconst 4, 1) := by decide +kernel
theorem dX10_likes_107 : decode cX10_likes 107 = .ok (.iload_n 2, 1) := by decide +kernel
theorem dX10_likes_108 : decode cX10_likes 108 = .ok (.imul, 1) := by decide +kernel
theorem dX10_likes_109 : decode cX10_likes 109 = .ok (.iadd, 1) := by decide +kernel
theorem dX10_likes_110 : decode cX10_likes 110 = .ok (.iload 7, 2) := by decide +kernel
theorem dX10_likes_112 : decode cX10_likes 112 = .ok (.iadd, 1) := by decide +kernel
theorem dX10_likes_113 : decode cX10_likes 113 = .ok (.iload 5, 2) := by decide +kernel
theorem dX10_likes_115 : decode cX10_likes 115 = .ok (.bipush 10, 2) := by decide +kernel
theorem dX10_likes_117 : decode cX10_likes 117 = .ok (.irem, 1) := by decide +kernel
theorem dX10_likes_118 : decode cX10_likes 118 = .ok (.iastore, 1) := by decide +kernel
theorem dX10_likes_119 : decode cX10_likes 119 = .ok (.iload 5, 2) := by decide +kernel
theorem dX10_likes_121 : decode cX10_likes 121 = .ok (.bipush 10, 2) := by decide +kernel
theorem dX10_likes_123 : decode cX10_likes 123 = .ok (.idiv, 1) := by decide +kernel
theorem dX10_likes_124 : decode cX10_likes 124 = .ok (.istore 5, 2) := by decide +kernel
