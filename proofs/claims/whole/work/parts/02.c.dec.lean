theorem dX10_likes_126 : decode cX10_likes 126 = .ok (.iinc 7 (-1), 3) := by decide +kernel
theorem dX10_likes_129 : decode cX10_likes 129 = .ok (.goto (-36), 3) := by decide +kernel
theorem dX10_likes_132 : decode cX10_likes 132 = .ok (.iload 6, 2) := by decide +kernel
theorem dX10_likes_134 : decode cX10_likes 134 = .ok (.ireturn, 1) := by decide +kernel
theorem dX10_say_0 : decode cX10_say 0 = .ok (.iload_n 1, 1) := by decide +kernel
theorem dX10_say_1 : decode cX10_say 1 = .ok (.bipush 33, 2) := by decide +kernel
theorem dX10_say_3 : decode cX10_say 3 = .ok (.bipush 126, 2) := by decide +kernel
theorem dX10_say_5 : decode cX10_say 5 = .ok (.invokestatic 62, 3) := by decide +kernel
theorem dX10_say_8 : decode cX10_say 8 = .ok (.ifCond .ne 6, 3) := by decide +kernel
theorem dX10_say_11 : decode cX10_say 11 = .ok (.bipush (-2), 2) := by decide +kernel
theorem dX10_say_13 : decode cX10_say 13 = .ok (.ireturn, 1) := by decide +kernel
theorem dX10_say_14 : decode cX10_say 14 = .ok (.aload_n 0, 1) := by decide +kernel
theorem dX10_say_15 : decode cX10_say 15 = .ok (.getfield 81, 3) := by decide +kernel
theorem dX10_say_18 : decode cX10_say 18 = .ok (.bipush 60, 2) := by decide +kernel
theorem dX10_say_20 : decode cX10_say 20 = .ok (.if_icmp .ne 6, 3) := by decide +kernel
theorem dX10_say_23 : decode cX10_say 23 = .ok (.bipush (-4), 2) := by decide +kernel
theorem dX10_say_25 : decode cX10_say 25 = .ok (.ireturn, 1) := by decide +kernel
theorem dX10_say_26 : decode cX10_say 26 = .ok (.aload_n 0, 1) := by decide +kernel
theorem dX10_say_27 : decode cX10_say 27 = .ok (.getfield 25, 3) := by decide +kernel
theorem dX10_say_30 : decode cX10_say 30 = .ok (.aload_n 0, 1) := by decide +kernel
theorem dX10_say_31 : decode cX10_say 31 = .ok (.getfield 81, 3) := by decide +kernel
theorem dX10_say_34 : decode cX10_say 34 = .ok (.iload_n 1, 1) := by decide +kernel
theorem dX10_say_35 : decode cX10_say 35 = .ok (.iastore, 1) := by decide +kernel
theorem dX10_say_36 : decode cX10_say 36 = .ok (.aload_n 0, 1) := by decide +kernel
theorem dX10_say_37 : decode cX10_say 37 = .ok (.dup, 1) := by decide +kernel
theorem dX10_say_38 : decode cX10_say 38 = .ok (.getfield 81, 3) := by decide +kernel
theorem dX10_say_41 : decode cX10_say 41 = .ok (.iconst 1, 1) := by decide +kernel
theorem dX10_say_42 : decode cX10_say 42 = .ok (.iadd, 1) := by decide +kernel
theorem dX10_say_43 : decode cX10_say 43 = .ok (.putfield 81, 3) := by decide +kernel
theorem dX10_say_46 : decode cX10_say 46 = .ok (.aload_n 0, 1) := by decide +kernel
theorem dX10_say_47 : decode cX10_say 47 = .ok (.getfield 81, 3) := by decide +kernel
theorem dX10_say_50 : decode cX10_say 50 = .ok (.ireturn, 1) := by decide +kernel
theorem dX10_wipe_0 : decode cX10_wipe 0 = .ok (.aload_n 0, 1) := by decide +kernel
theorem dX10_wipe_1 : decode cX10_wipe 1 = .ok (.getfield 81, 3) := by decide +kernel
theorem dX10_wipe_4 : decode cX10_wipe 4 = .ok (.istore_n 1, 1) := by decide +kernel
theorem dX10_wipe_5 : decode cX10_wipe 5 = .ok (.aload_n 0, 1) := by decide +kernel
theorem dX10_wipe_6 : decode cX10_wipe 6 = .ok (.iconst 0, 1) := by decide +kernel
theorem dX10_wipe_7 : decode cX10_wipe 7 = .ok (.putfield 81, 3) := by decide +kernel
theorem dX10_wipe_10 : decode cX10_wipe 10 = .ok (.iload_n 1, 1) := by decide +kernel
theorem dX10_wipe_11 : decode cX10_wipe 11 = .ok (.ireturn, 1) := by decide +kernel
theorem dX10_step_0 : decode cX10_step 0 = .ok (.iload_n 1, 1) := by decide +kernel
theorem dX10_step_1 : decode cX10_step 1 = .ok (.bipush 97, 2) := by decide +kernel
theorem dX10_step_3 : decode cX10_step 3 = .ok (.bipush 103, 2) := by decide +kernel
theorem dX10_step_5 : decode cX10_step 5 = .ok (.invokestatic 62, 3) := by decide +kernel
theorem dX10_step_8 : decode cX10_step 8 = .ok (.istore_n 2, 1) := by decide +kernel
theorem dX10_step_9 : decode cX10_step 9 = .ok (.iload_n 0, 1) := by decide +kernel
theorem dX10_step_10 : decode cX10_step 10 = .ok (.tableswitch 102 0 2 #[26, 64, 91], 26) := by decide +kernel
theorem dX10_step_36 : decode cX10_step 36 = .ok (.iload_n 1, 1) := by decide +kernel
theorem dX10_step_37 : decode cX10_step 37 = .ok (.bipush 65, 2) := by decide +kernel
theorem dX10_step_39 : decode cX10_step 39 = .ok (.bipush 71, 2) := by decide +kernel
theorem dX10_step_41 : decode cX10_step 41 = .ok (.invokestatic 62, 3) := by decide +kernel
theorem dX10_step_44 : decode cX10_step 44 = .ok (.ifCond .eq 7, 3) := by decide +kernel
theorem dX10_step_47 : decode cX10_step 47 = .ok (.iconst 1, 1) := by decide +kernel
theorem dX10_step_48 : decode cX10_step 48 = .ok (.goto 25, 3) := by decide +kernel
theorem dX10_step_51 : decode cX10_step 51 = .ok (.iload_n 1, 1) := by decide +kernel
theorem dX10_step_52 : decode cX10_step 52 = .ok (.bipush 119, 2) := by decide +kernel
theorem dX10_step_54 : decode cX10_step 54 = .ok (.if_icmp .ne 7, 3) := by decide +kernel
theorem dX10_step_57 : decode cX10_step 57 = .ok (.iconst 3, 1) := by decide +kernel
theorem dX10_step_58 : decode cX10_step 58 = .ok (.goto 15, 3) := by decide +kernel
theorem dX10_step_61 : decode cX10_step 61 = .ok (.iload_n 1, 1) := by decide +kernel
theorem dX10_step_62 : decode cX10_step 62 = .ok (.bipush 46, 2) := by decide +kernel
theorem dX10_step_64 : decode cX10_step 64 = .ok (.if_icmp .ne 7, 3) := by decide +kernel
theorem dX10_step_67 : decode cX10_step 67 = .ok (.iconst 0, 1) := by decide +kernel
theorem dX10_step_68 : decode cX10_step 68 = .ok (.goto 5, 3) := by decide +kernel
theorem dX10_step_71 : decode cX10_step 71 = .ok (.bipush (-6), 2) := by decide +kernel
theorem dX10_step_73 : decode cX10_step 73 = .ok (.ireturn, 1) := by decide +kernel
theorem dX10_step_74 : decode cX10_step 74 = .ok (.iload_n 2, 1) := by decide +kernel
theorem dX10_step_75 : decode cX10_step 75 = .ok (.ifCond .ne 9, 3) := by decide +kernel
theorem dX10_step_78 : decode cX10_step 78 = .ok (.iload_n 1, 1) := by decide +kernel
theorem dX10_step_79 : decode cX10_step 79 = .ok (.bipush 42, 2) := by decide +kernel
theorem dX10_step_81 : decode cX10_step 81 = .ok (.if_icmp .ne 7, 3) := by decide +kernel
theorem dX10_step_84 : decode cX10_step 84 = .ok (.iconst 0, 1) := by decide +kernel
theorem dX10_step_85 : decode cX10_step 85 = .ok (.goto 15, 3) := by decide +kernel
theorem dX10_step_88 : decode cX10_step 88 = .ok (.iload_n 1, 1) := by decide +kernel
theorem dX10_step_89 : decode cX10_step 89 = .ok (.bipush 33, 2) := by decide +kernel
theorem dX10_step_91 : decode cX10_step 91 = .ok (.if_icmp .ne 7, 3) := by decide +kernel
theorem dX10_step_94 : decode cX10_step 94 = .ok (.iconst 2, 1) := by decide +kernel
theorem dX10_step_95 : decode cX10_step 95 = .ok (.goto 5, 3) := by decide +kernel
theorem dX10_step_98 : decode cX10_step 98 = .ok (.bipush (-6), 2) := by decide +kernel
theorem dX10_step_100 : decode cX10_step 100 = .ok (.ireturn, 1) := by decide +kernel
theorem dX10_step_101 : decode cX10_step 101 = .ok (.iload_n 2, 1) := by decide +kernel
theorem dX10_step_102 : decode cX10_step 102 = .ok (.ifCond .eq 7, 3) := by decide +kernel
theorem dX10_step_105 : decode cX10_step 105 = .ok (.iconst 0, 1) := by decide +kernel
theorem dX10_step_106 : decode cX10_step 106 = .ok (.goto 5, 3) := by decide +kernel
theorem dX10_step_109 : decode cX10_step 109 = .ok (.bipush (-6), 2) := by decide +kernel
theorem dX10_step_111 : decode cX10_step 111 = .ok (.ireturn, 1) := by decide +kernel
theorem dX10_step_112 : decode cX10_step 112 = .ok (.iload_n 1, 1) := by decide +kernel
theorem dX10_step_113 : decode cX10_step 113 = .ok (.bipush 49, 2) := by decide +kernel
theorem dX10_step_115 : decode cX10_step 115 = .ok (.bipush 57, 2) := by decide +kernel
theorem dX10_step_117 : decode cX10_step 117 = .ok (.invokestatic 62, 3) := by decide +kernel
theorem dX10_step_120 : decode cX10_step 120 = .ok (.ifCond .eq 7, 3) := by decide +kernel
theorem dX10_step_123 : decode cX10_step 123 = .ok (.iconst 0, 1) := by decide +kernel
theorem dX10_step_124 : decode cX10_step 124 = .ok (.goto 5, 3) := by decide +kernel
theorem dX10_step_127 : decode cX10_step 127 = .ok (.bipush (-6), 2) := by decide +kernel
theorem dX10_step_129 : decode cX10_step 129 = .ok (.ireturn, 1) := by decide +kernel
theorem dX10_faultOf_0 : decode cX10_faultOf 0 = .ok (.iconst 0, 1) := by decide +kernel
theorem dX10_faultOf_1 : decode cX10_faultOf 1 = .ok (.istore_n 1, 1) := by decide +kernel
theorem dX10_faultOf_2 : decode cX10_faultOf 2 = .ok (.iconst 0, 1) := by decide +kernel
theorem dX10_faultOf_3 : decode cX10_faultOf 3 = .ok (.istore_n 2, 1) := by decide +kernel
theorem dX10_faultOf_4 : decode cX10_faultOf 4 = .ok (.iload_n 2, 1) := by decide +kernel
theorem dX10_faultOf_5 : decode cX10_faultOf 5 = .ok (.aload_n 0, 1) := by decide +kernel
theorem dX10_faultOf_6 : decode cX10_faultOf 6 = .ok (.getfield 81, 3) := by decide +kernel
theorem dX10_faultOf_9 : decode cX10_faultOf 9 = .ok (.if_icmp .ge 26, 3) := by decide +kernel
theorem dX10_faultOf_12 : decode cX10_faultOf 12 = .ok (.iload_n 1, 1) := by decide +kernel
theorem dX10_faultOf_13 : decode cX10_faultOf 13 = .ok (.aload_n 0, 1) := by decide +kernel
theorem dX10_faultOf_14 : decode cX10_faultOf 14 = .ok (.getfield 25, 3) := by decide +kernel
theorem dX10_faultOf_17 : decode cX10_faultOf 17 = .ok (.iload_n 2, 1) := by decide +kernel
theorem dX10_faultOf_18 : decode cX10_faultOf 18 = .ok (.iaload, 1) := by decide +kernel
theorem dX10_faultOf_19 : decode cX10_faultOf 19 = .ok (.invokestatic 85, 3) := by decide +kernel
theorem dX10_faultOf_22 : decode cX10_faultOf 22 = .ok (.istore_n 1, 1) := by decide +kernel
theorem dX10_faultOf_23 : decode cX10_faultOf 23 = .ok (.iload_n 1, 1) := by decide +kernel
theorem dX10_faultOf_24 : decode cX10_faultOf 24 = .ok (.ifCond .ge 5, 3) := by decide +kernel
theorem dX10_faultOf_27 : decode cX10_faultOf 27 = .ok (.iload_n 2, 1) := by decide +kernel
theorem dX10_faultOf_28 : decode cX10_faultOf 28 = .ok (.ireturn, 1) := by decide +kernel
theorem dX10_faultOf_29 : decode cX10_faultOf 29 = .ok (.iinc 2 1, 3) := by decide +kernel
theorem dX10_faultOf_32 : decode cX10_faultOf 32 = .ok (.goto (-28), 3) := by decide +kernel
theorem dX10_faultOf_35 : decode cX10_faultOf 35 = .ok (.iload_n 1, 1) := by decide +kernel
theorem dX10_faultOf_36 : decode cX10_faultOf 36 = .ok (.ifCond .ne 8, 3) := by decide +kernel
theorem dX10_faultOf_39 : decode cX10_faultOf 39 = .ok (.bipush (-6), 2) := by decide +kernel
theorem dX10_faultOf_41 : decode cX10_faultOf 41 = .ok (.goto 7, 3) := by decide +kernel
theorem dX10_faultOf_44 : decode cX10_faultOf 44 = .ok (.aload_n 0, 1) := by decide +kernel
theorem dX10_faultOf_45 : decode cX10_faultOf 45 = .ok (.getfield 81, 3) := by decide +kernel
theorem dX10_faultOf_48 : decode cX10_faultOf 48 = .ok (.ireturn, 1) := by decide +kernel
theorem dX10_fault_0 : decode cX10_fault 0 = .ok (.aload_n 0, 1) := by decide +kernel
theorem dX10_fault_1 : decode cX10_fault 1 = .ok (.invokevirtual 88, 3) := by decide +kernel
theorem dX10_fault_4 : decode cX10_fault 4 = .ok (.ireturn, 1) := by decide +kernel
theorem dX10_asNow_0 : decode cX10_asNow 0 = .ok (.iconst 0, 1) := by decide +kernel
theorem dX10_asNow_1 : decode cX10_asNow 1 = .ok (.istore_n 1, 1) := by decide +kernel
theorem dX10_asNow_2 : decode cX10_asNow 2 = .ok (.iload_n 1, 1) := by decide +kernel
theorem dX10_asNow_3 : decode cX10_asNow 3 = .ok (.bipush 64, 2) := by decide +kernel
theorem dX10_asNow_5 : decode cX10_asNow 5 = .ok (.if_icmp .ge 21, 3) := by decide +kernel
theorem dX10_asNow_8 : decode cX10_asNow 8 = .ok (.aload_n 0, 1) := by decide +kernel
theorem dX10_asNow_9 : decode cX10_asNow 9 = .ok (.getfield 13, 3) := by decide +kernel
theorem dX10_asNow_12 : decode cX10_asNow 12 = .ok (.iload_n 1, 1) := by decide +kernel
theorem dX10_asNow_13 : decode cX10_asNow 13 = .ok (.aload_n 0, 1) := by decide +kernel
theorem dX10_asNow_14 : decode cX10_asNow 14 = .ok (.getfield 7, 3) := by decide +kernel
theorem dX10_asNow_17 : decode cX10_asNow 17 = .ok (.iload_n 1, 1) := by decide +kernel
theorem dX10_asNow_18 : decode cX10_asNow 18 = .ok (.iaload, 1) := by decide +kernel
theorem dX10_asNow_19 : decode cX10_asNow 19 = .ok (.iastore, 1) := by decide +kernel
theorem dX10_asNow_20 : decode cX10_asNow 20 = .ok (.iinc 1 1, 3) := by decide +kernel
theorem dX10_asNow_23 : decode cX10_asNow 23 = .ok (.goto (-21), 3) := by decide +kernel
theorem dX10_asNow_26 : decode cX10_asNow 26 = .ok (.aload_n 0, 1) := by decide +kernel
theorem dX10_asNow_27 : decode cX10_asNow 27 = .ok (.iconst 0, 1) := by decide +kernel
theorem dX10_asNow_28 : decode cX10_asNow 28 = .ok (.putfield 92, 3) := by decide +kernel
theorem dX10_asNow_31 : decode cX10_asNow 31 = .ok (.aload_n 0, 1) := by decide +kernel
theorem dX10_asNow_32 : decode cX10_asNow 32 = .ok (.bipush (-6), 2) := by decide +kernel
theorem dX10_asNow_34 : decode cX10_asNow 34 = .ok (.putfield 95, 3) := by decide +kernel
theorem dX10_asNow_37 : decode cX10_asNow 37 = .ok (.aload_n 0, 1) := by decide +kernel
theorem dX10_asNow_38 : decode cX10_asNow 38 = .ok (.bipush (-6), 2) := by decide +kernel
theorem dX10_asNow_40 : decode cX10_asNow 40 = .ok (.putfield 98, 3) := by decide +kernel
theorem dX10_asNow_43 : decode cX10_asNow 43 = .ok (.return_, 1) := by decide +kernel
theorem dX10_palesOf_0 : decode cX10_palesOf 0 = .ok (.iconst 0, 1) := by decide +kernel
theorem dX10_palesOf_1 : decode cX10_palesOf 1 = .ok (.istore_n 2, 1) := by decide +kernel
theorem dX10_palesOf_2 : decode cX10_palesOf 2 = .ok (.iconst 0, 1) := by decide +kernel
theorem dX10_palesOf_3 : decode cX10_palesOf 3 = .ok (.istore_n 3, 1) := by decide +kernel
theorem dX10_palesOf_4 : decode cX10_palesOf 4 = .ok (.iload_n 3, 1) := by decide +kernel
theorem dX10_palesOf_5 : decode cX10_palesOf 5 = .ok (.bipush 49, 2) := by decide +kernel
theorem dX10_palesOf_7 : decode cX10_palesOf 7 = .ok (.if_icmp .ge 31, 3) := by decide +kernel
theorem dX10_palesOf_10 : decode cX10_palesOf 10 = .ok (.iload_n 2, 1) := by decide +kernel
theorem dX10_palesOf_11 : decode cX10_palesOf 11 = .ok (.aload_n 0, 1) := by decide +kernel
theorem dX10_palesOf_12 : decode cX10_palesOf 12 = .ok (.getfield 13, 3) := by decide +kernel
theorem dX10_palesOf_15 : decode cX10_palesOf 15 = .ok (.iload_n 3, 1) := by decide +kernel
theorem dX10_palesOf_16 : decode cX10_palesOf 16 = .ok (.iaload, 1) := by decide +kernel
theorem dX10_palesOf_17 : decode cX10_palesOf 17 = .ok (.iconst 0, 1) := by decide +kernel
theorem dX10_palesOf_18 : decode cX10_palesOf 18 = .ok (.iload_n 1, 1) := by decide +kernel
theorem dX10_palesOf_19 : decode cX10_palesOf 19 = .ok (.invokestatic 62, 3) := by decide +kernel
theorem dX10_palesOf_22 : decode cX10_palesOf 22 = .ok (.ifCond .eq 7, 3) := by decide +kernel
theorem dX10_palesOf_25 : decode cX10_palesOf 25 = .ok (.iconst 1, 1) := by decide +kernel
theorem dX10_palesOf_26 : decode cX10_palesOf 26 = .ok (.goto 4, 3) := by decide +kernel
theorem dX10_palesOf_29 : decode cX10_palesOf 29 = .ok (.iconst 0, 1) := by decide +kernel
theorem dX10_palesOf_30 : decode cX10_palesOf 30 = .ok (.iadd, 1) := by decide +kernel
theorem dX10_palesOf_31 : decode cX10_palesOf 31 = .ok (.istore_n 2, 1) := by decide +kernel
theorem dX10_palesOf_32 : decode cX10_palesOf 32 = .ok (.iinc 3 1, 3) := by decide +kernel
theorem dX10_palesOf_35 : decode cX10_palesOf 35 = .ok (.goto (-31), 3) := by decide +kernel
theorem dX10_palesOf_38 : decode cX10_palesOf 38 = .ok (.iload_n 2, 1) := by decide +kernel
theorem dX10_palesOf_39 : decode cX10_palesOf 39 = .ok (.iconst 2, 1) := by decide +kernel
theorem dX10_palesOf_40 : decode cX10_palesOf 40 = .ok (.idiv, 1) := by decide +kernel
theorem dX10_palesOf_41 : decode cX10_palesOf 41 = .ok (.ireturn, 1) := by decide +kernel
theorem dX10_away_0 : decode cX10_away 0 = .ok (.iconst 0, 1) := by decide +kernel
theorem dX10_away_1 : decode cX10_away 1 = .ok (.istore_n 1, 1) := by decide +kernel
theorem dX10_away_2 : decode cX10_away 2 = .ok (.iconst 0, 1) := by decide +kernel
theorem dX10_away_3 : decode cX10_away 3 = .ok (.istore_n 2, 1) := by decide +kernel
theorem dX10_away_4 : decode cX10_away 4 = .ok (.iload_n 2, 1) := by decide +kernel
theorem dX10_away_5 : decode cX10_away 5 = .ok (.bipush 7, 2) := by decide +kernel
theorem dX10_away_7 : decode cX10_away 7 = .ok (.if_icmp .ge 32, 3) := by decide +kernel
theorem dX10_away_10 : decode cX10_away 10 = .ok (.iload_n 1, 1) := by decide +kernel
theorem dX10_away_11 : decode cX10_away 11 = .ok (.aload_n 0, 1) := by decide +kernel
theorem dX10_away_12 : decode cX10_away 12 = .ok (.getfield 13, 3) := by decide +kernel
theorem dX10_away_15 : decode cX10_away 15 = .ok (.bipush 49, 2) := by decide +kernel
theorem dX10_away_17 : decode cX10_away 17 = .ok (.iload_n 2, 1) := by decide +kernel
theorem dX10_away_18 : decode cX10_away 18 = .ok (.iadd, 1) := by decide +kernel
theorem dX10_away_19 : decode cX10_away 19 = .ok (.iaload, 1) := by decide +kernel
theorem dX10_away_20 : decode cX10_away 20 = .ok (.iload_n 2, 1) := by decide +kernel
theorem dX10_away_21 : decode cX10_away 21 = .ok (.if_icmp .ne 7, 3) := by decide +kernel
theorem dX10_away_24 : decode cX10_away 24 = .ok (.iconst 0, 1) := by decide +kernel
theorem dX10_away_25 : decode cX10_away 25 = .ok (.goto 6, 3) := by decide +kernel
theorem dX10_away_28 : decode cX10_away 28 = .ok (.iconst 1, 1) := by decide +kernel
theorem dX10_away_29 : decode cX10_away 29 = .ok (.iload_n 2, 1) := by decide +kernel
theorem dX10_away_30 : decode cX10_away 30 = .ok (.ishl, 1) := by decide +kernel
theorem dX10_away_31 : decode cX10_away 31 = .ok (.ior, 1) := by decide +kernel
theorem dX10_away_32 : decode cX10_away 32 = .ok (.istore_n 1, 1) := by decide +kernel
theorem dX10_away_33 : decode cX10_away 33 = .ok (.iinc 2 1, 3) := by decide +kernel
theorem dX10_away_36 : decode cX10_away 36 = .ok (.goto (-32), 3) := by decide +kernel
theorem dX10_away_39 : decode cX10_away 39 = .ok (.iload_n 1, 1) := by decide +kernel
theorem dX10_away_40 : decode cX10_away 40 = .ok (.ireturn, 1) := by decide +kernel
theorem dX10_lay_0 : decode cX10_lay 0 = .ok (.aload_n 0, 1) := by decide +kernel
theorem dX10_lay_1 : decode cX10_lay 1 = .ok (.getfield 13, 3) := by decide +kernel
theorem dX10_lay_4 : decode cX10_lay 4 = .ok (.bipush 7, 2) := by decide +kernel
theorem dX10_lay_6 : decode cX10_lay 6 = .ok (.iload_n 1, 1) := by decide +kernel
theorem dX10_lay_7 : decode cX10_lay 7 = .ok (.imul, 1) := by decide +kernel
theorem dX10_lay_8 : decode cX10_lay 8 = .ok (.iload_n 2, 1) := by decide +kernel
theorem dX10_lay_9 : decode cX10_lay 9 = .ok (.iadd, 1) := by decide +kernel
theorem dX10_lay_10 : decode cX10_lay 10 = .ok (.iload_n 3, 1) := by decide +kernel
theorem dX10_lay_11 : decode cX10_lay 11 = .ok (.iastore, 1) := by decide +kernel
theorem dX10_lay_12 : decode cX10_lay 12 = .ok (.aload_n 0, 1) := by decide +kernel
theorem dX10_lay_13 : decode cX10_lay 13 = .ok (.getfield 13, 3) := by decide +kernel
theorem dX10_lay_16 : decode cX10_lay 16 = .ok (.bipush 7, 2) := by decide +kernel
theorem dX10_lay_18 : decode cX10_lay 18 = .ok (.iload_n 2, 1) := by decide +kernel
theorem dX10_lay_19 : decode cX10_lay 19 = .ok (.imul, 1) := by decide +kernel
theorem dX10_lay_20 : decode cX10_lay 20 = .ok (.iload_n 1, 1) := by decide +kernel
theorem dX10_lay_21 : decode cX10_lay 21 = .ok (.iadd, 1) := by decide +kernel
theorem dX10_lay_22 : decode cX10_lay 22 = .ok (.iload_n 3, 1) := by decide +kernel
theorem dX10_lay_23 : decode cX10_lay 23 = .ok (.iastore, 1) := by decide +kernel
theorem dX10_lay_24 : decode cX10_lay 24 = .ok (.return_, 1) := by decide +kernel
theorem dX10_go_0 : decode cX10_go 0 = .ok (.aload_n 0, 1) := by decide +kernel
theorem dX10_go_1 : decode cX10_go 1 = .ok (.getfield 13, 3) := by decide +kernel
theorem dX10_go_4 : decode cX10_go 4 = .ok (.bipush 49, 2) := by decide +kernel
theorem dX10_go_6 : decode cX10_go 6 = .ok (.iload_n 1, 1) := by decide +kernel
theorem dX10_go_7 : decode cX10_go 7 = .ok (.iadd, 1) := by decide +kernel
theorem dX10_go_8 : decode cX10_go 8 = .ok (.iaload, 1) := by decide +kernel
theorem dX10_go_9 : decode cX10_go 9 = .ok (.istore_n 3, 1) := by decide +kernel
theorem dX10_go_10 : decode cX10_go 10 = .ok (.iload_n 3, 1) := by decide +kernel
theorem dX10_go_11 : decode cX10_go 11 = .ok (.iload_n 2, 1) := by decide +kernel
theorem dX10_go_12 : decode cX10_go 12 = .ok (.if_icmp .ne 5, 3) := by decide +kernel
theorem dX10_go_15 : decode cX10_go 15 = .ok (.iconst 1, 1) := by decide +kernel
theorem dX10_go_16 : decode cX10_go 16 = .ok (.ireturn, 1) := by decide +kernel
theorem dX10_go_17 : decode cX10_go 17 = .ok (.aload_n 0, 1) := by decide +kernel
theorem dX10_go_18 : decode cX10_go 18 = .ok (.getfield 16, 3) := by decide +kernel
theorem dX10_go_21 : decode cX10_go 21 = .ok (.bipush 7, 2) := by decide +kernel
theorem dX10_go_23 : decode cX10_go 23 = .ok (.iload_n 3, 1) := by decide +kernel
theorem dX10_go_24 : decode cX10_go 24 = .ok (.imul, 1) := by decide +kernel
theorem dX10_go_25 : decode cX10_go 25 = .ok (.iload_n 2, 1) := by decide +kernel
theorem dX10_go_26 : decode cX10_go 26 = .ok (.iadd, 1) := by decide +kernel
theorem dX10_go_27 : decode cX10_go 27 = .ok (.iaload, 1) := by decide +kernel
theorem dX10_go_28 : decode cX10_go 28 = .ok (.ifCond .ne 5, 3) := by decide +kernel
theorem dX10_go_31 : decode cX10_go 31 = .ok (.iconst 2, 1) := by decide +kernel
theorem dX10_go_32 : decode cX10_go 32 = .ok (.ireturn, 1) := by decide +kernel
theorem dX10_go_33 : decode cX10_go 33 = .ok (.aload_n 0, 1) := by decide +kernel
theorem dX10_go_34 : decode cX10_go 34 = .ok (.dup, 1) := by decide +kernel
theorem dX10_go_35 : decode cX10_go 35 = .ok (.getfield 92, 3) := by decide +kernel
theorem dX10_go_38 : decode cX10_go 38 = .ok (.aload_n 0, 1) := by decide +kernel
theorem dX10_go_39 : decode cX10_go 39 = .ok (.getfield 16, 3) := by decide +kernel
theorem dX10_go_42 : decode cX10_go 42 = .ok (.bipush 7, 2) := by decide +kernel
theorem dX10_go_44 : decode cX10_go 44 = .ok (.iload_n 3, 1) := by decide +kernel
theorem dX10_go_45 : decode cX10_go 45 = .ok (.imul, 1) := by decide +kernel
theorem dX10_go_46 : decode cX10_go 46 = .ok (.iload_n 2, 1) := by decide +kernel
theorem dX10_go_47 : decode cX10_go 47 = .ok (.iadd, 1) := by decide +kernel
theorem dX10_go_48 : decode cX10_go 48 = .ok (.iaload, 1) := by decide +kernel
theorem dX10_go_49 : decode cX10_go 49 = .ok (.iadd, 1) := by decide +kernel
theorem dX10_go_50 : decode cX10_go 50 = .ok (.putfield 92, 3) := by decide +kernel
theorem dX10_go_53 : decode cX10_go 53 = .ok (.aload_n 0, 1) := by decide +kernel
theorem dX10_go_54 : decode cX10_go 54 = .ok (.getfield 13, 3) := by decide +kernel
theorem dX10_go_57 : decode cX10_go 57 = .ok (.bipush 49, 2) := by decide +kernel
theorem dX10_go_59 : decode cX10_go 59 = .ok (.iload_n 1, 1) := by decide +kernel
theorem dX10_go_60 : decode cX10_go 60 = .ok (.iadd, 1) := by decide +kernel
theorem dX10_go_61 : decode cX10_go 61 = .ok (.iload_n 2, 1) := by decide +kernel
theorem dX10_go_62 : decode cX10_go 62 = .ok (.iastore, 1) := by decide +kernel
theorem dX10_go_63 : decode cX10_go 63 = .ok (.iconst 0, 1) := by decide +kernel
theorem dX10_go_64 : decode cX10_go 64 = .ok (.ireturn, 1) := by decide +kernel
theorem dX10_mend_0 : decode cX10_mend 0 = .ok (.aload_n 0, 1) := by decide +kernel
theorem dX10_mend_1 : decode cX10_mend 1 = .ok (.getfield 13, 3) := by decide +kernel
theorem dX10_mend_4 : decode cX10_mend 4 = .ok (.bipush 49, 2) := by decide +kernel
theorem dX10_mend_6 : decode cX10_mend 6 = .ok (.iload_n 1, 1) := by decide +kernel
theorem dX10_mend_7 : decode cX10_mend 7 = .ok (.iadd, 1) := by decide +kernel
theorem dX10_mend_8 : decode cX10_mend 8 = .ok (.iaload, 1) := by decide +kernel
theorem dX10_mend_9 : decode cX10_mend 9 = .ok (.istore_n 2, 1) := by decide +kernel
theorem dX10_mend_10 : decode cX10_mend 10 = .ok (.aload_n 0, 1) := by decide +kernel
theorem dX10_mend_11 : decode cX10_mend 11 = .ok (.getfield 13, 3) := by decide +kernel
theorem dX10_mend_14 : decode cX10_mend 14 = .ok (.bipush 7, 2) := by decide +kernel
theorem dX10_mend_16 : decode cX10_mend 16 = .ok (.iload_n 1, 1) := by decide +kernel
theorem dX10_mend_17 : decode cX10_mend 17 = .ok (.imul, 1) := by decide +kernel
theorem dX10_mend_18 : decode cX10_mend 18 = .ok (.iload_n 2, 1) := by decide +kernel
theorem dX10_mend_19 : decode cX10_mend 19 = .ok (.iadd, 1) := by decide +kernel
theorem dX10_mend_20 : decode cX10_mend 20 = .ok (.iaload, 1) := by decide +kernel
theorem dX10_mend_21 : decode cX10_mend 21 = .ok (.istore_n 3, 1) := by decide +kernel
theorem dX10_mend_22 : decode cX10_mend 22 = .ok (.iload_n 2, 1) := by decide +kernel
theorem dX10_mend_23 : decode cX10_mend 23 = .ok (.iload_n 1, 1) := by decide +kernel
theorem dX10_mend_24 : decode cX10_mend 24 = .ok (.if_icmp .ne 5, 3) := by decide +kernel
theorem dX10_mend_27 : decode cX10_mend 27 = .ok (.iconst 3, 1) := by decide +kernel
theorem dX10_mend_28 : decode cX10_mend 28 = .ok (.ireturn, 1) := by decide +kernel
theorem dX10_mend_29 : decode cX10_mend 29 = .ok (.iload_n 3, 1) := by decide +kernel
theorem dX10_mend_30 : decode cX10_mend 30 = .ok (.ifCond .ge 5, 3) := by decide +kernel
theorem dX10_mend_33 : decode cX10_mend 33 = .ok (.iconst 4, 1) := by decide +kernel
theorem dX10_mend_34 : decode cX10_mend 34 = .ok (.ireturn, 1) := by decide +kernel
theorem dX10_mend_35 : decode cX10_mend 35 = .ok (.iload_n 3, 1) := by decide +kernel
theorem dX10_mend_36 : decode cX10_mend 36 = .ok (.bipush 9, 2) := by decide +kernel
theorem dX10_mend_38 : decode cX10_mend 38 = .ok (.if_icmp .ne 5, 3) := by decide +kernel
theorem dX10_mend_41 : decode cX10_mend 41 = .ok (.iconst 5, 1) := by decide +kernel
theorem dX10_mend_42 : decode cX10_mend 42 = .ok (.ireturn, 1) := by decide +kernel
theorem dX10_mend_43 : decode cX10_mend 43 = .ok (.aload_n 0, 1) := by decide +kernel
theorem dX10_mend_44 : decode cX10_mend 44 = .ok (.iload_n 1, 1) := by decide +kernel
theorem dX10_mend_45 : decode cX10_mend 45 = .ok (.iload_n 2, 1) := by decide +kernel
theorem dX10_mend_46 : decode cX10_mend 46 = .ok (.iload_n 3, 1) := by decide +kernel
theorem dX10_mend_47 : decode cX10_mend 47 = .ok (.bipush 6, 2) := by decide +kernel
theorem dX10_mend_49 : decode cX10_mend 49 = .ok (.if_icmp .le 8, 3) := by decide +kernel
theorem dX10_mend_52 : decode cX10_mend 52 = .ok (.bipush 9, 2) := by decide +kernel
theorem dX10_mend_54 : decode cX10_mend 54 = .ok (.goto 6, 3) := by decide +kernel
theorem dX10_mend_57 : decode cX10_mend 57 = .ok (.iload_n 3, 1) := by decide +kernel
theorem dX10_mend_58 : decode cX10_mend 58 = .ok (.iconst 3, 1) := by decide +kernel
theorem dX10_mend_59 : decode cX10_mend 59 = .ok (.iadd, 1) := by decide +kernel
theorem dX10_mend_60 : decode cX10_mend 60 = .ok (.invokevirtual 101, 3) := by decide +kernel
theorem dX10_mend_63 : decode cX10_mend 63 = .ok (.iconst 0, 1) := by decide +kernel
theorem dX10_mend_64 : decode cX10_mend 64 = .ok (.ireturn, 1) := by decide +kernel
theorem dX10_split_0 : decode cX10_split 0 = .ok (.aload_n 0, 1) := by decide +kernel
theorem dX10_split_1 : decode cX10_split 1 = .ok (.getfield 13, 3) := by decide +kernel
theorem dX10_split_4 : decode cX10_split 4 = .ok (.bipush 7, 2) := by decide +kernel
theorem dX10_split_6 : decode cX10_split 6 = .ok (.iload_n 1, 1) := by decide +kernel
theorem dX10_split_7 : decode cX10_split 7 = .ok (.imul, 1) := by decide +kernel
theorem dX10_split_8 : decode cX10_split 8 = .ok (.iload_n 2, 1) := by decide +kernel
theorem dX10_split_9 : decode cX10_split 9 = .ok (.iadd, 1) := by decide +kernel
theorem dX10_split_10 : decode cX10_split 10 = .ok (.iaload, 1) := by decide +kernel
theorem dX10_split_11 : decode cX10_split 11 = .ok (.istore_n 3, 1) := by decide +kernel
theorem dX10_split_12 : decode cX10_split 12 = .ok (.aload_n 0, 1) := by decide +kernel
theorem dX10_split_13 : decode cX10_split 13 = .ok (.getfield 13, 3) := by decide +kernel
theorem dX10_split_16 : decode cX10_split 16 = .ok (.bipush 49, 2) := by decide +kernel
theorem dX10_split_18 : decode cX10_split 18 = .ok (.iload_n 1, 1) := by decide +kernel
theorem dX10_split_19 : decode cX10_split 19 = .ok (.iadd, 1) := by decide +kernel
theorem dX10_split_20 : decode cX10_split 20 = .ok (.iaload, 1) := by decide +kernel
theorem dX10_split_21 : decode cX10_split 21 = .ok (.iload_n 1, 1) := by decide +kernel
theorem dX10_split_22 : decode cX10_split 22 = .ok (.if_icmp .eq 5, 3) := by decide +kernel
theorem dX10_split_25 : decode cX10_split 25 = .ok (.iconst 3, 1) := by decide +kernel
theorem dX10_split_26 : decode cX10_split 26 = .ok (.ireturn, 1) := by decide +kernel
theorem dX10_split_27 : decode cX10_split 27 = .ok (.iload_n 3, 1) := by decide +kernel
theorem dX10_split_28 : decode cX10_split 28 = .ok (.ifCond .ge 5, 3) := by decide +kernel
theorem dX10_split_31 : decode cX10_split 31 = .ok (.iconst 4, 1) := by decide +kernel
theorem dX10_split_32 : decode cX10_split 32 = .ok (.ireturn, 1) := by decide +kernel
theorem dX10_split_33 : decode cX10_split 33 = .ok (.iload_n 3, 1) := by decide +kernel
theorem dX10_split_34 : decode cX10_split 34 = .ok (.ifCond .ne 5, 3) := by decide +kernel
theorem dX10_split_37 : decode cX10_split 37 = .ok (.iconst 5, 1) := by decide +kernel
theorem dX10_split_38 : decode cX10_split 38 = .ok (.ireturn, 1) := by decide +kernel
theorem dX10_split_39 : decode cX10_split 39 = .ok (.aload_n 0, 1) := by decide +kernel
theorem dX10_split_40 : decode cX10_split 40 = .ok (.iload_n 1, 1) := by decide +kernel
theorem dX10_split_41 : decode cX10_split 41 = .ok (.iload_n 2, 1) := by decide +kernel
theorem dX10_split_42 : decode cX10_split 42 = .ok (.iload_n 3, 1) := by decide +kernel
theorem dX10_split_43 : decode cX10_split 43 = .ok (.iconst 2, 1) := by decide +kernel
theorem dX10_split_44 : decode cX10_split 44 = .ok (.idiv, 1) := by decide +kernel
theorem dX10_split_45 : decode cX10_split 45 = .ok (.invokevirtual 101, 3) := by decide +kernel
theorem dX10_split_48 : decode cX10_split 48 = .ok (.iconst 0, 1) := by decide +kernel
theorem dX10_split_49 : decode cX10_split 49 = .ok (.ireturn, 1) := by decide +kernel
theorem dX10_blow_0 : decode cX10_blow 0 = .ok (.aload_n 0, 1) := by decide +kernel
theorem dX10_blow_1 : decode cX10_blow 1 = .ok (.bipush 9, 2) := by decide +kernel
theorem dX10_blow_3 : decode cX10_blow 3 = .ok (.invokevirtual 73, 3) := by decide +kernel
theorem dX10_blow_6 : decode cX10_blow 6 = .ok (.ifCond .ne 6, 3) := by decide +kernel
theorem dX10_blow_9 : decode cX10_blow 9 = .ok (.bipush 6, 2) := by decide +kernel
theorem dX10_blow_11 : decode cX10_blow 11 = .ok (.ireturn, 1) := by decide +kernel
theorem dX10_blow_12 : decode cX10_blow 12 = .ok (.iconst 0, 1) := by decide +kernel
theorem dX10_blow_13 : decode cX10_blow 13 = .ok (.istore_n 2, 1) := by decide +kernel
theorem dX10_blow_14 : decode cX10_blow 14 = .ok (.iload_n 2, 1) := by decide +kernel
theorem dX10_blow_15 : decode cX10_blow 15 = .ok (.bipush 49, 2) := by decide +kernel
theorem dX10_blow_17 : decode cX10_blow 17 = .ok (.if_icmp .ge 55, 3) := by decide +kernel
theorem dX10_blow_20 : decode cX10_blow 20 = .ok (.aload_n 0, 1) := by decide +kernel
theorem dX10_blow_21 : decode cX10_blow 21 = .ok (.getfield 13, 3) := by decide +kernel
theorem dX10_blow_24 : decode cX10_blow 24 = .ok (.iload_n 2, 1) := by decide +kernel
theorem dX10_blow_25 : decode cX10_blow 25 = .ok (.aload_n 0, 1) := by decide +kernel
theorem dX10_blow_26 : decode cX10_blow 26 = .ok (.getfield 13, 3) := by decide +kernel
theorem dX10_blow_29 : decode cX10_blow 29 = .ok (.iload_n 2, 1) := by decide +kernel
theorem dX10_blow_30 : decode cX10_blow 30 = .ok (.iaload, 1) := by decide +kernel
theorem dX10_blow_31 : decode cX10_blow 31 = .ok (.ifCond .ge 12, 3) := by decide +kernel
theorem dX10_blow_34 : decode cX10_blow 34 = .ok (.aload_n 0, 1) := by decide +kernel
theorem dX10_blow_35 : decode cX10_blow 35 = .ok (.getfield 13, 3) := by decide +kernel
theorem dX10_blow_38 : decode cX10_blow 38 = .ok (.iload_n 2, 1) := by decide +kernel
theorem dX10_blow_39 : decode cX10_blow 39 = .ok (.iaload, 1) := by decide +kernel
theorem dX10_blow_40 : decode cX10_blow 40 = .ok (.goto 25, 3) := by decide +kernel
theorem dX10_blow_43 : decode cX10_blow 43 = .ok (.aload_n 0, 1) := by decide +kernel
theorem dX10_blow_44 : decode cX10_blow 44 = .ok (.getfield 13, 3) := by decide +kernel
theorem dX10_blow_47 : decode cX10_blow 47 = .ok (.iload_n 2, 1) := by decide +kernel
theorem dX10_blow_48 : decode cX10_blow 48 = .ok (.iaload, 1) := by decide +kernel
theorem dX10_blow_49 : decode cX10_blow 49 = .ok (.iload_n 1, 1) := by decide +kernel
theorem dX10_blow_50 : decode cX10_blow 50 = .ok (.if_icmp .le 14, 3) := by decide +kernel
theorem dX10_blow_53 : decode cX10_blow 53 = .ok (.aload_n 0, 1) := by decide +kernel
theorem dX10_blow_54 : decode cX10_blow 54 = .ok (.getfield 13, 3) := by decide +kernel
theorem dX10_blow_57 : decode cX10_blow 57 = .ok (.iload_n 2, 1) := by decide +kernel
theorem dX10_blow_58 : decode cX10_blow 58 = .ok (.iaload, 1) := by decide +kernel
theorem dX10_blow_59 : decode cX10_blow 59 = .ok (.iload_n 1, 1) := by decide +kernel
theorem dX10_blow_60 : decode cX10_blow 60 = .ok (.isub, 1) := by decide +kernel
theorem dX10_blow_61 : decode cX10_blow 61 = .ok (.goto 4, 3) := by decide +kernel
theorem dX10_blow_64 : decode cX10_blow 64 = .ok (.iconst 0, 1) := by decide +kernel
theorem dX10_blow_65 : decode cX10_blow 65 = .ok (.iastore, 1) := by decide +kernel
theorem dX10_blow_66 : decode cX10_blow 66 = .ok (.iinc 2 1, 3) := by decide +kernel
theorem dX10_blow_69 : decode cX10_blow 69 = .ok (.goto (-55), 3) := by decide +kernel
theorem dX10_blow_72 : decode cX10_blow 72 = .ok (.iconst 0, 1) := by decide +kernel
theorem dX10_blow_73 : decode cX10_blow 73 = .ok (.ireturn, 1) := by decide +kernel
theorem dX10_endDay_0 : decode cX10_endDay 0 = .ok (.aload_n 0, 1) := by decide +kernel
theorem dX10_endDay_1 : decode cX10_endDay 1 = .ok (.getfield 13, 3) := by decide +kernel
theorem dX10_endDay_4 : decode cX10_endDay 4 = .ok (.bipush 63, 2) := by decide +kernel
theorem dX10_endDay_6 : decode cX10_endDay 6 = .ok (.iaload, 1) := by decide +kernel
theorem dX10_endDay_7 : decode cX10_endDay 7 = .ok (.bipush 99, 2) := by decide +kernel
theorem dX10_endDay_9 : decode cX10_endDay 9 = .ok (.if_icmp .ne 6, 3) := by decide +kernel
theorem dX10_endDay_12 : decode cX10_endDay 12 = .ok (.bipush 7, 2) := by decide +kernel
theorem dX10_endDay_14 : decode cX10_endDay 14 = .ok (.ireturn, 1) := by decide +kernel
theorem dX10_endDay_15 : decode cX10_endDay 15 = .ok (.aload_n 0, 1) := by decide +kernel
theorem dX10_endDay_16 : decode cX10_endDay 16 = .ok (.getfield 13, 3) := by decide +kernel
theorem dX10_endDay_19 : decode cX10_endDay 19 = .ok (.bipush 63, 2) := by decide +kernel
theorem dX10_endDay_21 : decode cX10_endDay 21 = .ok (.dup2, 1) := by decide +kernel
theorem dX10_endDay_22 : decode cX10_endDay 22 = .ok (.iaload, 1) := by decide +kernel
theorem dX10_endDay_23 : decode cX10_endDay 23 = .ok (.iconst 1, 1) := by decide +kernel
theorem dX10_endDay_24 : decode cX10_endDay 24 = .ok (.iadd, 1) := by decide +kernel
theorem dX10_endDay_25 : decode cX10_endDay 25 = .ok (.iastore, 1) := by decide +kernel
theorem dX10_endDay_26 : decode cX10_endDay 26 = .ok (.iconst 0, 1) := by decide +kernel
theorem dX10_endDay_27 : decode cX10_endDay 27 = .ok (.istore_n 1, 1) := by decide +kernel
theorem dX10_endDay_28 : decode cX10_endDay 28 = .ok (.iload_n 1, 1) := by decide +kernel
theorem dX10_endDay_29 : decode cX10_endDay 29 = .ok (.bipush 49, 2) := by decide +kernel
theorem dX10_endDay_31 : decode cX10_endDay 31 = .ok (.if_icmp .ge 103, 3) := by decide +kernel
theorem dX10_endDay_34 : decode cX10_endDay 34 = .ok (.iload_n 1, 1) := by decide +kernel
theorem dX10_endDay_35 : decode cX10_endDay 35 = .ok (.bipush 7, 2) := by decide +kernel
theorem dX10_endDay_37 : decode cX10_endDay 37 = .ok (.idiv, 1) := by decide +kernel
theorem dX10_endDay_38 : decode cX10_endDay 38 = .ok (.istore_n 2, 1) := by decide +kernel
theorem dX10_endDay_39 : decode cX10_endDay 39 = .ok (.iload_n 1, 1) := by decide +kernel
theorem dX10_endDay_40 : decode cX10_endDay 40 = .ok (.bipush 7, 2) := by decide +kernel
theorem dX10_endDay_42 : decode cX10_endDay 42 = .ok (.irem, 1) := by decide +kernel
theorem dX10_endDay_43 : decode cX10_endDay 43 = .ok (.istore_n 3, 1) := by decide +kernel
theorem dX10_endDay_44 : decode cX10_endDay 44 = .ok (.iload_n 2, 1) := by decide +kernel
theorem dX10_endDay_45 : decode cX10_endDay 45 = .ok (.iload_n 3, 1) := by decide +kernel
theorem dX10_endDay_46 : decode cX10_endDay 46 = .ok (.if_icmp .ge 82, 3) := by decide +kernel
theorem dX10_endDay_49 : decode cX10_endDay 49 = .ok (.aload_n 0, 1) := by decide +kernel
theorem dX10_endDay_50 : decode cX10_endDay 50 = .ok (.getfield 13, 3) := by decide +kernel
theorem dX10_endDay_53 : decode cX10_endDay 53 = .ok (.iload_n 1, 1) := by decide +kernel
theorem dX10_endDay_54 : decode cX10_endDay 54 = .ok (.iaload, 1) := by decide +kernel
theorem dX10_endDay_55 : decode cX10_endDay 55 = .ok (.ifCond .ne 73, 3) := by decide +kernel
theorem dX10_endDay_58 : decode cX10_endDay 58 = .ok (.aload_n 0, 1) := by decide +kernel
theorem dX10_endDay_59 : decode cX10_endDay 59 = .ok (.getfield 13, 3) := by decide +kernel
theorem dX10_endDay_62 : decode cX10_endDay 62 = .ok (.bipush 56, 2) := by decide +kernel
theorem dX10_endDay_64 : decode cX10_endDay 64 = .ok (.iload_n 2, 1) := by decide +kernel
theorem dX10_endDay_65 : decode cX10_endDay 65 = .ok (.iadd, 1) := by decide +kernel
theorem dX10_endDay_66 : decode cX10_endDay 66 = .ok (.iaload, 1) := by decide +kernel
theorem dX10_endDay_67 : decode cX10_endDay 67 = .ok (.aload_n 0, 1) := by decide +kernel
theorem dX10_endDay_68 : decode cX10_endDay 68 = .ok (.getfield 13, 3) := by decide +kernel
theorem dX10_endDay_71 : decode cX10_endDay 71 = .ok (.bipush 56, 2) := by decide +kernel
theorem dX10_endDay_73 : decode cX10_endDay 73 = .ok (.iload_n 3, 1) := by decide +kernel
theorem dX10_endDay_74 : decode cX10_endDay 74 = .ok (.iadd, 1) := by decide +kernel
theorem dX10_endDay_75 : decode cX10_endDay 75 = .ok (.iaload, 1) := by decide +kernel
theorem dX10_endDay_76 : decode cX10_endDay 76 = .ok (.isub, 1) := by decide +kernel
theorem dX10_endDay_77 : decode cX10_endDay 77 = .ok (.istore 4, 2) := by decide +kernel
theorem dX10_endDay_79 : decode cX10_endDay 79 = .ok (.iload 4, 2) := by decide +kernel
theorem dX10_endDay_81 : decode cX10_endDay 81 = .ok (.ifCond .le 7, 3) := by decide +kernel
theorem dX10_endDay_84 : decode cX10_endDay 84 = .ok (.iconst 1, 1) := by decide +kernel
theorem dX10_endDay_85 : decode cX10_endDay 85 = .ok (.goto 13, 3) := by decide +kernel
theorem dX10_endDay_88 : decode cX10_endDay 88 = .ok (.iload 4, 2) := by decide +kernel
theorem dX10_endDay_90 : decode cX10_endDay 90 = .ok (.ifCond .ge 7, 3) := by decide +kernel
theorem dX10_endDay_93 : decode cX10_endDay 93 = .ok (.iconst (-1), 1) := by decide +kernel
theorem dX10_endDay_94 : decode cX10_endDay 94 = .ok (.goto 4, 3) := by decide +kernel
theorem dX10_endDay_97 : decode cX10_endDay 97 = .ok (.iconst 0, 1) := by decide +kernel
theorem dX10_endDay_98 : decode cX10_endDay 98 = .ok (.istore 5, 2) := by decide +kernel
theorem dX10_endDay_100 : decode cX10_endDay 100 = .ok (.aload_n 0, 1) := by decide +kernel
theorem dX10_endDay_101 : decode cX10_endDay 101 = .ok (.getfield 13, 3) := by decide +kernel
theorem dX10_endDay_104 : decode cX10_endDay 104 = .ok (.bipush 56, 2) := by decide +kernel
theorem dX10_endDay_106 : decode cX10_endDay 106 = .ok (.iload_n 2, 1) := by decide +kernel
theorem dX10_endDay_107 : decode cX10_endDay 107 = .ok (.iadd, 1) := by decide +kernel
theorem dX10_endDay_108 : decode cX10_endDay 108 = .ok (.dup2, 1) := by decide +kernel
theorem dX10_endDay_109 : decode cX10_endDay 109 = .ok (.iaload, 1) := by decide +kernel
theorem dX10_endDay_110 : decode cX10_endDay 110 = .ok (.iload 5, 2) := by decide +kernel
theorem dX10_endDay_112 : decode cX10_endDay 112 = .ok (.isub, 1) := by decide +kernel
theorem dX10_endDay_113 : decode cX10_endDay 113 = .ok (.iastore, 1) := by decide +kernel
theorem dX10_endDay_114 : decode cX10_endDay 114 = .ok (.aload_n 0, 1) := by decide +kernel
theorem dX10_endDay_115 : decode cX10_endDay 115 = .ok (.getfield 13, 3) := by decide +kernel
theorem dX10_endDay_118 : decode cX10_endDay 118 = .ok (.bipush 56, 2) := by decide +kernel
theorem dX10_endDay_120 : decode cX10_endDay 120 = .ok (.iload_n 3, 1) := by decide +kernel
theorem dX10_endDay_121 : decode cX10_endDay 121 = .ok (.iadd, 1) := by decide +kernel
theorem dX10_endDay_122 : decode cX10_endDay 122 = .ok (.dup2, 1) := by decide +kernel
theorem dX10_endDay_123 : decode cX10_endDay 123 = .ok (.iaload, 1) := by decide +kernel
theorem dX10_endDay_124 : decode cX10_endDay 124 = .ok (.iload 5, 2) := by decide +kernel
theorem dX10_endDay_126 : decode cX10_endDay 126 = .ok (.iadd, 1) := by decide +kernel
theorem dX10_endDay_127 : decode cX10_endDay 127 = .ok (.iastore, 1) := by decide +kernel
theorem dX10_endDay_128 : decode cX10_endDay 128 = .ok (.iinc 1 1, 3) := by decide +kernel
theorem dX10_endDay_131 : decode cX10_endDay 131 = .ok (.goto (-103), 3) := by decide +kernel
theorem dX10_endDay_134 : decode cX10_endDay 134 = .ok (.iconst 0, 1) := by decide +kernel
theorem dX10_endDay_135 : decode cX10_endDay 135 = .ok (.ireturn, 1) := by decide +kernel
theorem dX10_oneAct_0 : decode cX10_oneAct 0 = .ok (.aload_n 0, 1) := by decide +kernel
theorem dX10_oneAct_1 : decode cX10_oneAct 1 = .ok (.getfield 25, 3) := by decide +kernel
theorem dX10_oneAct_4 : decode cX10_oneAct 4 = .ok (.iload_n 1, 1) := by decide +kernel
theorem dX10_oneAct_5 : decode cX10_oneAct 5 = .ok (.iaload, 1) := by decide +kernel
theorem dX10_oneAct_6 : decode cX10_oneAct 6 = .ok (.istore_n 2, 1) := by decide +kernel
theorem dX10_oneAct_7 : decode cX10_oneAct 7 = .ok (.aload_n 0, 1) := by decide +kernel
theorem dX10_oneAct_8 : decode cX10_oneAct 8 = .ok (.getfield 25, 3) := by decide +kernel
theorem dX10_oneAct_11 : decode cX10_oneAct 11 = .ok (.iload_n 1, 1) := by decide +kernel
theorem dX10_oneAct_12 : decode cX10_oneAct 12 = .ok (.iconst 1, 1) := by decide +kernel
theorem dX10_oneAct_13 : decode cX10_oneAct 13 = .ok (.iadd, 1) := by decide +kernel
theorem dX10_oneAct_14 : decode cX10_oneAct 14 = .ok (.iaload, 1) := by decide +kernel
theorem dX10_oneAct_15 : decode cX10_oneAct 15 = .ok (.istore_n 3, 1) := by decide +kernel
theorem dX10_oneAct_16 : decode cX10_oneAct 16 = .ok (.iload_n 2, 1) := by decide +kernel
theorem dX10_oneAct_17 : decode cX10_oneAct 17 = .ok (.bipush 119, 2) := by decide +kernel
theorem dX10_oneAct_19 : decode cX10_oneAct 19 = .ok (.if_icmp .ne 12, 3) := by decide +kernel
theorem dX10_oneAct_22 : decode cX10_oneAct 22 = .ok (.aload_n 0, 1) := by decide +kernel
theorem dX10_oneAct_23 : decode cX10_oneAct 23 = .ok (.iload_n 3, 1) := by decide +kernel
theorem dX10_oneAct_24 : decode cX10_oneAct 24 = .ok (.bipush 48, 2) := by decide +kernel
theorem dX10_oneAct_26 : decode cX10_oneAct 26 = .ok (.isub, 1) := by decide +kernel
theorem dX10_oneAct_27 : decode cX10_oneAct 27 = .ok (.invokevirtual 105, 3) := by decide +kernel
theorem dX10_oneAct_30 : decode cX10_oneAct 30 = .ok (.ireturn, 1) := by decide +kernel
theorem dX10_oneAct_31 : decode cX10_oneAct 31 = .ok (.iload_n 3, 1) := by decide +kernel
theorem dX10_oneAct_32 : decode cX10_oneAct 32 = .ok (.bipush 42, 2) := by decide +kernel
theorem dX10_oneAct_34 : decode cX10_oneAct 34 = .ok (.if_icmp .ne 14, 3) := by decide +kernel
theorem dX10_oneAct_37 : decode cX10_oneAct 37 = .ok (.aload_n 0, 1) := by decide +kernel
theorem dX10_oneAct_38 : decode cX10_oneAct 38 = .ok (.iload_n 2, 1) := by decide +kernel
theorem dX10_oneAct_39 : decode cX10_oneAct 39 = .ok (.bipush 65, 2) := by decide +kernel
theorem dX10_oneAct_41 : decode cX10_oneAct 41 = .ok (.isub, 1) := by decide +kernel
theorem dX10_oneAct_42 : decode cX10_oneAct 42 = .ok (.invokevirtual 108, 3) := by decide +kernel
theorem dX10_oneAct_45 : decode cX10_oneAct 45 = .ok (.goto 43, 3) := by decide +kernel
theorem dX10_oneAct_48 : decode cX10_oneAct 48 = .ok (.iload_n 3, 1) := by decide +kernel
theorem dX10_oneAct_49 : decode cX10_oneAct 49 = .ok (.bipush 33, 2) := by decide +kernel
theorem dX10_oneAct_51 : decode cX10_oneAct 51 = .ok (.if_icmp .ne 25, 3) := by decide +kernel
theorem dX10_oneAct_54 : decode cX10_oneAct 54 = .ok (.aload_n 0, 1) := by decide +kernel
theorem dX10_oneAct_55 : decode cX10_oneAct 55 = .ok (.iload_n 2, 1) := by decide +kernel
theorem dX10_oneAct_56 : decode cX10_oneAct 56 = .ok (.bipush 65, 2) := by decide +kernel
theorem dX10_oneAct_58 : decode cX10_oneAct 58 = .ok (.isub, 1) := by decide +kernel
theorem dX10_oneAct_59 : decode cX10_oneAct 59 = .ok (.aload_n 0, 1) := by decide +kernel
theorem dX10_oneAct_60 : decode cX10_oneAct 60 = .ok (.getfield 25, 3) := by decide +kernel
theorem dX10_oneAct_63 : decode cX10_oneAct 63 = .ok (.iload_n 1, 1) := by decide +kernel
theorem dX10_oneAct_64 : decode cX10_oneAct 64 = .ok (.iconst 2, 1) := by decide +kernel
theorem dX10_oneAct_65 : decode cX10_oneAct 65 = .ok (.iadd, 1) := by decide +kernel
theorem dX10_oneAct_66 : decode cX10_oneAct 66 = .ok (.iaload, 1) := by decide +kernel
theorem dX10_oneAct_67 : decode cX10_oneAct 67 = .ok (.bipush 97, 2) := by decide +kernel
theorem dX10_oneAct_69 : decode cX10_oneAct 69 = .ok (.isub, 1) := by decide +kernel
theorem dX10_oneAct_70 : decode cX10_oneAct 70 = .ok (.invokevirtual 111, 3) := by decide +kernel
theorem dX10_oneAct_73 : decode cX10_oneAct 73 = .ok (.goto 15, 3) := by decide +kernel
theorem dX10_oneAct_76 : decode cX10_oneAct 76 = .ok (.aload_n 0, 1) := by decide +kernel
theorem dX10_oneAct_77 : decode cX10_oneAct 77 = .ok (.iload_n 2, 1) := by decide +kernel
theorem dX10_oneAct_78 : decode cX10_oneAct 78 = .ok (.bipush 65, 2) := by decide +kernel
theorem dX10_oneAct_80 : decode cX10_oneAct 80 = .ok (.isub, 1) := by decide +kernel
theorem dX10_oneAct_81 : decode cX10_oneAct 81 = .ok (.iload_n 3, 1) := by decide +kernel
theorem dX10_oneAct_82 : decode cX10_oneAct 82 = .ok (.bipush 97, 2) := by decide +kernel
theorem dX10_oneAct_84 : decode cX10_oneAct 84 = .ok (.isub, 1) := by decide +kernel
theorem dX10_oneAct_85 : decode cX10_oneAct 85 = .ok (.invokevirtual 114, 3) := by decide +kernel
theorem dX10_oneAct_88 : decode cX10_oneAct 88 = .ok (.ireturn, 1) := by decide +kernel
theorem dX10_goWeeks_0 : decode cX10_goWeeks 0 = .ok (.aload_n 0, 1) := by decide +kernel
theorem dX10_goWeeks_1 : decode cX10_goWeeks 1 = .ok (.invokevirtual 70, 3) := by decide +kernel
theorem dX10_goWeeks_4 : decode cX10_goWeeks 4 = .ok (.aload_n 0, 1) := by decide +kernel
theorem dX10_goWeeks_5 : decode cX10_goWeeks 5 = .ok (.iconst 0, 1) := by decide +kernel
theorem dX10_goWeeks_6 : decode cX10_goWeeks 6 = .ok (.putfield 117, 3) := by decide +kernel
theorem dX10_goWeeks_9 : decode cX10_goWeeks 9 = .ok (.iconst 0, 1) := by decide +kernel
theorem dX10_goWeeks_10 : decode cX10_goWeeks 10 = .ok (.istore_n 1, 1) := by decide +kernel
theorem dX10_goWeeks_11 : decode cX10_goWeeks 11 = .ok (.iload_n 1, 1) := by decide +kernel
theorem dX10_goWeeks_12 : decode cX10_goWeeks 12 = .ok (.aload_n 0, 1) := by decide +kernel
theorem dX10_goWeeks_13 : decode cX10_goWeeks 13 = .ok (.getfield 81, 3) := by decide +kernel
theorem dX10_goWeeks_16 : decode cX10_goWeeks 16 = .ok (.if_icmp .ge 194, 3) := by decide +kernel
theorem dX10_goWeeks_19 : decode cX10_goWeeks 19 = .ok (.iconst 0, 1) := by decide +kernel
theorem dX10_goWeeks_20 : decode cX10_goWeeks 20 = .ok (.istore_n 2, 1) := by decide +kernel
theorem dX10_goWeeks_21 : decode cX10_goWeeks 21 = .ok (.iload_n 2, 1) := by decide +kernel
theorem dX10_goWeeks_22 : decode cX10_goWeeks 22 = .ok (.bipush 49, 2) := by decide +kernel
theorem dX10_goWeeks_24 : decode cX10_goWeeks 24 = .ok (.if_icmp .ge 21, 3) := by decide +kernel
theorem dX10_goWeeks_27 : decode cX10_goWeeks 27 = .ok (.aload_n 0, 1) := by decide +kernel
theorem dX10_goWeeks_28 : decode cX10_goWeeks 28 = .ok (.getfield 28, 3) := by decide +kernel
theorem dX10_goWeeks_31 : decode cX10_goWeeks 31 = .ok (.iload_n 2, 1) := by decide +kernel
theorem dX10_goWeeks_32 : decode cX10_goWeeks 32 = .ok (.aload_n 0, 1) := by decide +kernel
theorem dX10_goWeeks_33 : decode cX10_goWeeks 33 = .ok (.getfield 13, 3) := by decide +kernel
theorem dX10_goWeeks_36 : decode cX10_goWeeks 36 = .ok (.iload_n 2, 1) := by decide +kernel
theorem dX10_goWeeks_37 : decode cX10_goWeeks 37 = .ok (.iaload, 1) := by decide +kernel
theorem dX10_goWeeks_38 : decode cX10_goWeeks 38 = .ok (.iastore, 1) := by decide +kernel
theorem dX10_goWeeks_39 : decode cX10_goWeeks 39 = .ok (.iinc 2 1, 3) := by decide +kernel
theorem dX10_goWeeks_42 : decode cX10_goWeeks 42 = .ok (.goto (-21), 3) := by decide +kernel
theorem dX10_goWeeks_45 : decode cX10_goWeeks 45 = .ok (.aload_n 0, 1) := by decide +kernel
theorem dX10_goWeeks_46 : decode cX10_goWeeks 46 = .ok (.getfield 25, 3) := by decide +kernel
theorem dX10_goWeeks_49 : decode cX10_goWeeks 49 = .ok (.iload_n 1, 1) := by decide +kernel
theorem dX10_goWeeks_50 : decode cX10_goWeeks 50 = .ok (.iaload, 1) := by decide +kernel
theorem dX10_goWeeks_51 : decode cX10_goWeeks 51 = .ok (.bipush 46, 2) := by decide +kernel
theorem dX10_goWeeks_53 : decode cX10_goWeeks 53 = .ok (.if_icmp .ne 7, 3) := by decide +kernel
theorem dX10_goWeeks_56 : decode cX10_goWeeks 56 = .ok (.iconst 1, 1) := by decide +kernel
theorem dX10_goWeeks_57 : decode cX10_goWeeks 57 = .ok (.goto 4, 3) := by decide +kernel
theorem dX10_goWeeks_60 : decode cX10_goWeeks 60 = .ok (.iconst 0, 1) := by decide +kernel
theorem dX10_goWeeks_61 : decode cX10_goWeeks 61 = .ok (.istore_n 2, 1) := by decide +kernel
theorem dX10_goWeeks_62 : decode cX10_goWeeks 62 = .ok (.aload_n 0, 1) := by decide +kernel
theorem dX10_goWeeks_63 : decode cX10_goWeeks 63 = .ok (.iload_n 2, 1) := by decide +kernel
theorem dX10_goWeeks_64 : decode cX10_goWeeks 64 = .ok (.ifCond .eq 10, 3) := by decide +kernel
theorem dX10_goWeeks_67 : decode cX10_goWeeks 67 = .ok (.aload_n 0, 1) := by decide +kernel
theorem dX10_goWeeks_68 : decode cX10_goWeeks 68 = .ok (.invokevirtual 120, 3) := by decide +kernel
theorem dX10_goWeeks_71 : decode cX10_goWeeks 71 = .ok (.goto 8, 3) := by decide +kernel
theorem dX10_goWeeks_74 : decode cX10_goWeeks 74 = .ok (.aload_n 0, 1) := by decide +kernel
theorem dX10_goWeeks_75 : decode cX10_goWeeks 75 = .ok (.iload_n 1, 1) := by decide +kernel
theorem dX10_goWeeks_76 : decode cX10_goWeeks 76 = .ok (.invokevirtual 123, 3) := by decide +kernel
theorem dX10_goWeeks_79 : decode cX10_goWeeks 79 = .ok (.putfield 126, 3) := by decide +kernel
theorem dX10_goWeeks_82 : decode cX10_goWeeks 82 = .ok (.iload_n 1, 1) := by decide +kernel
theorem dX10_goWeeks_83 : decode cX10_goWeeks 83 = .ok (.iload_n 2, 1) := by decide +kernel
theorem dX10_goWeeks_84 : decode cX10_goWeeks 84 = .ok (.ifCond .eq 7, 3) := by decide +kernel
theorem dX10_goWeeks_87 : decode cX10_goWeeks 87 = .ok (.iconst 1, 1) := by decide +kernel
theorem dX10_goWeeks_88 : decode cX10_goWeeks 88 = .ok (.goto 21, 3) := by decide +kernel
theorem dX10_goWeeks_91 : decode cX10_goWeeks 91 = .ok (.aload_n 0, 1) := by decide +kernel
theorem dX10_goWeeks_92 : decode cX10_goWeeks 92 = .ok (.getfield 25, 3) := by decide +kernel
theorem dX10_goWeeks_95 : decode cX10_goWeeks 95 = .ok (.iload_n 1, 1) := by decide +kernel
theorem dX10_goWeeks_96 : decode cX10_goWeeks 96 = .ok (.iconst 1, 1) := by decide +kernel
theorem dX10_goWeeks_97 : decode cX10_goWeeks 97 = .ok (.iadd, 1) := by decide +kernel
theorem dX10_goWeeks_98 : decode cX10_goWeeks 98 = .ok (.iaload, 1) := by decide +kernel
theorem dX10_goWeeks_99 : decode cX10_goWeeks 99 = .ok (.bipush 33, 2) := by decide +kernel
theorem dX10_goWeeks_101 : decode cX10_goWeeks 101 = .ok (.if_icmp .ne 7, 3) := by decide +kernel
theorem dX10_goWeeks_104 : decode cX10_goWeeks 104 = .ok (.iconst 3, 1) := by decide +kernel
theorem dX10_goWeeks_105 : decode cX10_goWeeks 105 = .ok (.goto 4, 3) := by decide +kernel
theorem dX10_goWeeks_108 : decode cX10_goWeeks 108 = .ok (.iconst 2, 1) := by decide +kernel
theorem dX10_goWeeks_109 : decode cX10_goWeeks 109 = .ok (.iadd, 1) := by decide +kernel
theorem dX10_goWeeks_110 : decode cX10_goWeeks 110 = .ok (.istore_n 1, 1) := by decide +kernel
theorem dX10_goWeeks_111 : decode cX10_goWeeks 111 = .ok (.aload_n 0, 1) := by decide +kernel
theorem dX10_goWeeks_112 : decode cX10_goWeeks 112 = .ok (.getfield 126, 3) := by decide +kernel
theorem dX10_goWeeks_115 : decode cX10_goWeeks 115 = .ok (.ifCond .le 8, 3) := by decide +kernel
theorem dX10_goWeeks_118 : decode cX10_goWeeks 118 = .ok (.aload_n 0, 1) := by decide +kernel
theorem dX10_goWeeks_119 : decode cX10_goWeeks 119 = .ok (.getfield 117, 3) := by decide +kernel
theorem dX10_goWeeks_122 : decode cX10_goWeeks 122 = .ok (.ireturn, 1) := by decide +kernel
theorem dX10_goWeeks_123 : decode cX10_goWeeks 123 = .ok (.iconst 0, 1) := by decide +kernel
theorem dX10_goWeeks_124 : decode cX10_goWeeks 124 = .ok (.istore_n 3, 1) := by decide +kernel
theorem dX10_goWeeks_125 : decode cX10_goWeeks 125 = .ok (.iload_n 3, 1) := by decide +kernel
theorem dX10_goWeeks_126 : decode cX10_goWeeks 126 = .ok (.bipush 49, 2) := by decide +kernel
theorem dX10_goWeeks_128 : decode cX10_goWeeks 128 = .ok (.if_icmp .ge 69, 3) := by decide +kernel
theorem dX10_goWeeks_131 : decode cX10_goWeeks 131 = .ok (.aload_n 0, 1) := by decide +kernel
theorem dX10_goWeeks_132 : decode cX10_goWeeks 132 = .ok (.getfield 95, 3) := by decide +kernel
theorem dX10_goWeeks_135 : decode cX10_goWeeks 135 = .ok (.ifCond .ge 62, 3) := by decide +kernel
theorem dX10_goWeeks_138 : decode cX10_goWeeks 138 = .ok (.iload_n 3, 1) := by decide +kernel
theorem dX10_goWeeks_139 : decode cX10_goWeeks 139 = .ok (.bipush 7, 2) := by decide +kernel
theorem dX10_goWeeks_141 : decode cX10_goWeeks 141 = .ok (.idiv, 1) := by decide +kernel
theorem dX10_goWeeks_142 : decode cX10_goWeeks 142 = .ok (.iload_n 3, 1) := by decide +kernel
theorem dX10_goWeeks_143 : decode cX10_goWeeks 143 = .ok (.bipush 7, 2) := by decide +kernel
theorem dX10_goWeeks_145 : decode cX10_goWeeks 145 = .ok (.irem, 1) := by decide +kernel
theorem dX10_goWeeks_146 : decode cX10_goWeeks 146 = .ok (.if_icmp .ge 45, 3) := by decide +kernel
theorem dX10_goWeeks_149 : decode cX10_goWeeks 149 = .ok (.aload_n 0, 1) := by decide +kernel
theorem dX10_goWeeks_150 : decode cX10_goWeeks 150 = .ok (.getfield 13, 3) := by decide +kernel
theorem dX10_goWeeks_153 : decode cX10_goWeeks 153 = .ok (.iload_n 3, 1) := by decide +kernel
theorem dX10_goWeeks_154 : decode cX10_goWeeks 154 = .ok (.iaload, 1) := by decide +kernel
theorem dX10_goWeeks_155 : decode cX10_goWeeks 155 = .ok (.ifCond .ne 36, 3) := by decide +kernel
theorem dX10_goWeeks_158 : decode cX10_goWeeks 158 = .ok (.aload_n 0, 1) := by decide +kernel
theorem dX10_goWeeks_159 : decode cX10_goWeeks 159 = .ok (.getfield 28, 3) := by decide +kernel
theorem dX10_goWeeks_162 : decode cX10_goWeeks 162 = .ok (.iload_n 3, 1) := by decide +kernel
theorem dX10_goWeeks_163 : decode cX10_goWeeks 163 = .ok (.iaload, 1) := by decide +kernel
theorem dX10_goWeeks_164 : decode cX10_goWeeks 164 = .ok (.ifCond .le 27, 3) := by decide +kernel
theorem dX10_goWeeks_167 : decode cX10_goWeeks 167 = .ok (.aload_n 0, 1) := by decide +kernel
theorem dX10_goWeeks_168 : decode cX10_goWeeks 168 = .ok (.aload_n 0, 1) := by decide +kernel
theorem dX10_goWeeks_169 : decode cX10_goWeeks 169 = .ok (.getfield 117, 3) := by decide +kernel
theorem dX10_goWeeks_172 : decode cX10_goWeeks 172 = .ok (.putfield 95, 3) := by decide +kernel
theorem dX10_goWeeks_175 : decode cX10_goWeeks 175 = .ok (.aload_n 0, 1) := by decide +kernel
theorem dX10_goWeeks_176 : decode cX10_goWeeks 176 = .ok (.bipush 10, 2) := by decide +kernel
theorem dX10_goWeeks_178 : decode cX10_goWeeks 178 = .ok (.iload_n 3, 1) := by decide +kernel
theorem dX10_goWeeks_179 : decode cX10_goWeeks 179 = .ok (.bipush 7, 2) := by decide +kernel
theorem dX10_goWeeks_181 : decode cX10_goWeeks 181 = .ok (.idiv, 1) := by decide +kernel
theorem dX10_goWeeks_182 : decode cX10_goWeeks 182 = .ok (.imul, 1) := by decide +kernel
theorem dX10_goWeeks_183 : decode cX10_goWeeks 183 = .ok (.iload_n 3, 1) := by decide +kernel
theorem dX10_goWeeks_184 : decode cX10_goWeeks 184 = .ok (.bipush 7, 2) := by decide +kernel
theorem dX10_goWeeks_186 : decode cX10_goWeeks 186 = .ok (.irem, 1) := by decide +kernel
theorem dX10_goWeeks_187 : decode cX10_goWeeks 187 = .ok (.iadd, 1) := by decide +kernel
theorem dX10_goWeeks_188 : decode cX10_goWeeks 188 = .ok (.putfield 98, 3) := by decide +kernel
theorem dX10_goWeeks_191 : decode cX10_goWeeks 191 = .ok (.iinc 3 1, 3) := by decide +kernel
theorem dX10_goWeeks_194 : decode cX10_goWeeks 194 = .ok (.goto (-69), 3) := by decide +kernel
theorem dX10_goWeeks_197 : decode cX10_goWeeks 197 = .ok (.aload_n 0, 1) := by decide +kernel
theorem dX10_goWeeks_198 : decode cX10_goWeeks 198 = .ok (.dup, 1) := by decide +kernel
theorem dX10_goWeeks_199 : decode cX10_goWeeks 199 = .ok (.getfield 117, 3) := by decide +kernel
theorem dX10_goWeeks_202 : decode cX10_goWeeks 202 = .ok (.iconst 1, 1) := by decide +kernel
theorem dX10_goWeeks_203 : decode cX10_goWeeks 203 = .ok (.iadd, 1) := by decide +kernel
theorem dX10_goWeeks_204 : decode cX10_goWeeks 204 = .ok (.putfield 117, 3) := by decide +kernel
theorem dX10_goWeeks_207 : decode cX10_goWeeks 207 = .ok (.goto (-196), 3) := by decide +kernel
theorem dX10_goWeeks_210 : decode cX10_goWeeks 210 = .ok (.bipush (-6), 2) := by decide +kernel
theorem dX10_goWeeks_212 : decode cX10_goWeeks 212 = .ok (.ireturn, 1) := by decide +kernel
theorem dX10_judge_0 : decode cX10_judge 0 = .ok (.iload_n 1, 1) := by decide +kernel
theorem dX10_judge_1 : decode cX10_judge 1 = .ok (.iconst 0, 1) := by decide +kernel
theorem dX10_judge_2 : decode cX10_judge 2 = .ok (.iconst 1, 1) := by decide +kernel
theorem dX10_judge_3 : decode cX10_judge 3 = .ok (.invokestatic 62, 3) := by decide +kernel
theorem dX10_judge_6 : decode cX10_judge 6 = .ok (.ifCond .ne 6, 3) := by decide +kernel
theorem dX10_judge_9 : decode cX10_judge 9 = .ok (.bipush (-2), 2) := by decide +kernel
theorem dX10_judge_11 : decode cX10_judge 11 = .ok (.ireturn, 1) := by decide +kernel
theorem dX10_judge_12 : decode cX10_judge 12 = .ok (.aload_n 0, 1) := by decide +kernel
theorem dX10_judge_13 : decode cX10_judge 13 = .ok (.invokevirtual 88, 3) := by decide +kernel
theorem dX10_judge_16 : decode cX10_judge 16 = .ok (.ifCond .lt 6, 3) := by decide +kernel
theorem dX10_judge_19 : decode cX10_judge 19 = .ok (.bipush (-5), 2) := by decide +kernel
theorem dX10_judge_21 : decode cX10_judge 21 = .ok (.ireturn, 1) := by decide +kernel
theorem dX10_judge_22 : decode cX10_judge 22 = .ok (.aload_n 0, 1) := by decide +kernel
theorem dX10_judge_23 : decode cX10_judge 23 = .ok (.invokevirtual 129, 3) := by decide +kernel
theorem dX10_judge_26 : decode cX10_judge 26 = .ok (.istore_n 2, 1) := by decide +kernel
theorem dX10_judge_27 : decode cX10_judge 27 = .ok (.iload_n 2, 1) := by decide +kernel
theorem dX10_judge_28 : decode cX10_judge 28 = .ok (.ifCond .lt 7, 3) := by decide +kernel
theorem dX10_judge_31 : decode cX10_judge 31 = .ok (.iload_n 1, 1) := by decide +kernel
theorem dX10_judge_32 : decode cX10_judge 32 = .ok (.ifCond .ne 7, 3) := by decide +kernel
theorem dX10_judge_35 : decode cX10_judge 35 = .ok (.iload_n 2, 1) := by decide +kernel
theorem dX10_judge_36 : decode cX10_judge 36 = .ok (.goto 7, 3) := by decide +kernel
theorem dX10_judge_39 : decode cX10_judge 39 = .ok (.aload_n 0, 1) := by decide +kernel
theorem dX10_judge_40 : decode cX10_judge 40 = .ok (.getfield 126, 3) := by decide +kernel
theorem dX10_judge_43 : decode cX10_judge 43 = .ok (.ireturn, 1) := by decide +kernel
theorem dX10_barOfWeeks_0 : decode cX10_barOfWeeks 0 = .ok (.aload_n 0, 1) := by decide +kernel
theorem dX10_barOfWeeks_1 : decode cX10_barOfWeeks 1 = .ok (.invokevirtual 88, 3) := by decide +kernel
theorem dX10_barOfWeeks_4 : decode cX10_barOfWeeks 4 = .ok (.ifCond .ge 10, 3) := by decide +kernel
theorem dX10_barOfWeeks_7 : decode cX10_barOfWeeks 7 = .ok (.aload_n 0, 1) := by decide +kernel
theorem dX10_barOfWeeks_8 : decode cX10_barOfWeeks 8 = .ok (.invokevirtual 129, 3) := by decide +kernel
theorem dX10_barOfWeeks_11 : decode cX10_barOfWeeks 11 = .ok (.ifCond .lt 8, 3) := by decide +kernel
theorem dX10_barOfWeeks_14 : decode cX10_barOfWeeks 14 = .ok (.bipush (-5), 2) := by decide +kernel
theorem dX10_barOfWeeks_16 : decode cX10_barOfWeeks 16 = .ok (.goto 4, 3) := by decide +kernel
theorem dX10_barOfWeeks_19 : decode cX10_barOfWeeks 19 = .ok (.iconst 0, 1) := by decide +kernel
theorem dX10_barOfWeeks_20 : decode cX10_barOfWeeks 20 = .ok (.ireturn, 1) := by decide +kernel
theorem dX10_done_0 : decode cX10_done 0 = .ok (.aload_n 0, 1) := by decide +kernel
theorem dX10_done_1 : decode cX10_done 1 = .ok (.invokevirtual 132, 3) := by decide +kernel
theorem dX10_done_4 : decode cX10_done 4 = .ok (.ifCond .ge 6, 3) := by decide +kernel
theorem dX10_done_7 : decode cX10_done 7 = .ok (.bipush (-5), 2) := by decide +kernel
theorem dX10_done_9 : decode cX10_done 9 = .ok (.ireturn, 1) := by decide +kernel
theorem dX10_done_10 : decode cX10_done 10 = .ok (.iconst 0, 1) := by decide +kernel
theorem dX10_done_11 : decode cX10_done 11 = .ok (.istore_n 1, 1) := by decide +kernel
theorem dX10_done_12 : decode cX10_done 12 = .ok (.iload_n 1, 1) := by decide +kernel
theorem dX10_done_13 : decode cX10_done 13 = .ok (.bipush 64, 2) := by decide +kernel
theorem dX10_done_15 : decode cX10_done 15 = .ok (.if_icmp .ge 21, 3) := by decide +kernel
theorem dX10_done_18 : decode cX10_done 18 = .ok (.aload_n 0, 1) := by decide +kernel
theorem dX10_done_19 : decode cX10_done 19 = .ok (.getfield 7, 3) := by decide +kernel
theorem dX10_done_22 : decode cX10_done 22 = .ok (.iload_n 1, 1) := by decide +kernel
theorem dX10_done_23 : decode cX10_done 23 = .ok (.aload_n 0, 1) := by decide +kernel
theorem dX10_done_24 : decode cX10_done 24 = .ok (.getfield 13, 3) := by decide +kernel
theorem dX10_done_27 : decode cX10_done 27 = .ok (.iload_n 1, 1) := by decide +kernel
theorem dX10_done_28 : decode cX10_done 28 = .ok (.iaload, 1) := by decide +kernel
theorem dX10_done_29 : decode cX10_done 29 = .ok (.iastore, 1) := by decide +kernel
theorem dX10_done_30 : decode cX10_done 30 = .ok (.iinc 1 1, 3) := by decide +kernel
theorem dX10_done_33 : decode cX10_done 33 = .ok (.goto (-21), 3) := by decide +kernel
theorem dX10_done_36 : decode cX10_done 36 = .ok (.aload_n 0, 1) := by decide +kernel
theorem dX10_done_37 : decode cX10_done 37 = .ok (.iconst 0, 1) := by decide +kernel
theorem dX10_done_38 : decode cX10_done 38 = .ok (.putfield 81, 3) := by decide +kernel
theorem dX10_done_41 : decode cX10_done 41 = .ok (.aload_n 0, 1) := by decide +kernel
theorem dX10_done_42 : decode cX10_done 42 = .ok (.getfield 117, 3) := by decide +kernel
theorem dX10_done_45 : decode cX10_done 45 = .ok (.ireturn, 1) := by decide +kernel
theorem dX10_behind_0 : decode cX10_behind 0 = .ok (.iload_n 1, 1) := by decide +kernel
theorem dX10_behind_1 : decode cX10_behind 1 = .ok (.invokestatic 66, 3) := by decide +kernel
theorem dX10_behind_4 : decode cX10_behind 4 = .ok (.ifCond .eq 15, 3) := by decide +kernel
theorem dX10_behind_7 : decode cX10_behind 7 = .ok (.iload_n 2, 1) := by decide +kernel
theorem dX10_behind_8 : decode cX10_behind 8 = .ok (.invokestatic 66, 3) := by decide +kernel
theorem dX10_behind_11 : decode cX10_behind 11 = .ok (.ifCond .eq 8, 3) := by decide +kernel
theorem dX10_behind_14 : decode cX10_behind 14 = .ok (.iload_n 1, 1) := by decide +kernel
theorem dX10_behind_15 : decode cX10_behind 15 = .ok (.iload_n 2, 1) := by decide +kernel
theorem dX10_behind_16 : decode cX10_behind 16 = .ok (.if_icmp .ne 5, 3) := by decide +kernel
theorem dX10_behind_19 : decode cX10_behind 19 = .ok (.iconst (-1), 1) := by decide +kernel
theorem dX10_behind_20 : decode cX10_behind 20 = .ok (.ireturn, 1) := by decide +kernel
theorem dX10_behind_21 : decode cX10_behind 21 = .ok (.aload_n 0, 1) := by decide +kernel
theorem dX10_behind_22 : decode cX10_behind 22 = .ok (.invokevirtual 132, 3) := by decide +kernel
theorem dX10_behind_25 : decode cX10_behind 25 = .ok (.ifCond .ge 8, 3) := by decide +kernel
theorem dX10_behind_28 : decode cX10_behind 28 = .ok (.bipush (-5), 2) := by decide +kernel
theorem dX10_behind_30 : decode cX10_behind 30 = .ok (.goto 14, 3) := by decide +kernel
theorem dX10_behind_33 : decode cX10_behind 33 = .ok (.aload_n 0, 1) := by decide +kernel
theorem dX10_behind_34 : decode cX10_behind 34 = .ok (.getfield 13, 3) := by decide +kernel
theorem dX10_behind_37 : decode cX10_behind 37 = .ok (.bipush 7, 2) := by decide +kernel
theorem dX10_behind_39 : decode cX10_behind 39 = .ok (.iload_n 1, 1) := by decide +kernel
theorem dX10_behind_40 : decode cX10_behind 40 = .ok (.imul, 1) := by decide +kernel
theorem dX10_behind_41 : decode cX10_behind 41 = .ok (.iload_n 2, 1) := by decide +kernel
theorem dX10_behind_42 : decode cX10_behind 42 = .ok (.iadd, 1) := by decide +kernel
theorem dX10_behind_43 : decode cX10_behind 43 = .ok (.iaload, 1) := by decide +kernel
theorem dX10_behind_44 : decode cX10_behind 44 = .ok (.ireturn, 1) := by decide +kernel
theorem dX10_goes_0 : decode cX10_goes 0 = .ok (.iload_n 1, 1) := by decide +kernel
theorem dX10_goes_1 : decode cX10_goes 1 = .ok (.invokestatic 66, 3) := by decide +kernel
theorem dX10_goes_4 : decode cX10_goes 4 = .ok (.ifCond .ne 5, 3) := by decide +kernel
theorem dX10_goes_7 : decode cX10_goes 7 = .ok (.iconst (-1), 1) := by decide +kernel
theorem dX10_goes_8 : decode cX10_goes 8 = .ok (.ireturn, 1) := by decide +kernel
theorem dX10_goes_9 : decode cX10_goes 9 = .ok (.iload_n 2, 1) := by decide +kernel
theorem dX10_goes_10 : decode cX10_goes 10 = .ok (.iconst 0, 1) := by decide +kernel
theorem dX10_goes_11 : decode cX10_goes 11 = .ok (.iconst 1, 1) := by decide +kernel
theorem dX10_goes_12 : decode cX10_goes 12 = .ok (.invokestatic 62, 3) := by decide +kernel
theorem dX10_goes_15 : decode cX10_goes 15 = .ok (.ifCond .ne 6, 3) := by decide +kernel
theorem dX10_goes_18 : decode cX10_goes 18 = .ok (.bipush (-2), 2) := by decide +kernel
theorem dX10_goes_20 : decode cX10_goes 20 = .ok (.ireturn, 1) := by decide +kernel
theorem dX10_goes_21 : decode cX10_goes 21 = .ok (.aload_n 0, 1) := by decide +kernel
theorem dX10_goes_22 : decode cX10_goes 22 = .ok (.invokevirtual 132, 3) := by decide +kernel
theorem dX10_goes_25 : decode cX10_goes 25 = .ok (.ifCond .ge 8, 3) := by decide +kernel
theorem dX10_goes_28 : decode cX10_goes 28 = .ok (.bipush (-5), 2) := by decide +kernel
theorem dX10_goes_30 : decode cX10_goes 30 = .ok (.goto 17, 3) := by decide +kernel
theorem dX10_goes_33 : decode cX10_goes 33 = .ok (.aload_n 0, 1) := by decide +kernel
theorem dX10_goes_34 : decode cX10_goes 34 = .ok (.getfield 13, 3) := by decide +kernel
theorem dX10_goes_37 : decode cX10_goes 37 = .ok (.bipush 49, 2) := by decide +kernel
theorem dX10_goes_39 : decode cX10_goes 39 = .ok (.bipush 7, 2) := by decide +kernel
theorem dX10_goes_41 : decode cX10_goes 41 = .ok (.iload_n 2, 1) := by decide +kernel
theorem dX10_goes_42 : decode cX10_goes 42 = .ok (.imul, 1) := by decide +kernel
theorem dX10_goes_43 : decode cX10_goes 43 = .ok (.iadd, 1) := by decide +kernel
theorem dX10_goes_44 : decode cX10_goes 44 = .ok (.iload_n 1, 1) := by decide +kernel
theorem dX10_goes_45 : decode cX10_goes 45 = .ok (.iadd, 1) := by decide +kernel
theorem dX10_goes_46 : decode cX10_goes 46 = .ok (.iaload, 1) := by decide +kernel
theorem dX10_goes_47 : decode cX10_goes 47 = .ok (.ireturn, 1) := by decide +kernel
theorem dX10_then_0 : decode cX10_then 0 = .ok (.iload_n 1, 1) := by decide +kernel
theorem dX10_then_1 : decode cX10_then 1 = .ok (.iconst 0, 1) := by decide +kernel
theorem dX10_then_2 : decode cX10_then 2 = .ok (.iconst 5, 1) := by decide +kernel
theorem dX10_then_3 : decode cX10_then 3 = .ok (.invokestatic 62, 3) := by decide +kernel
theorem dX10_then_6 : decode cX10_then 6 = .ok (.ifCond .ne 6, 3) := by decide +kernel
theorem dX10_then_9 : decode cX10_then 9 = .ok (.bipush (-2), 2) := by decide +kernel
theorem dX10_then_11 : decode cX10_then 11 = .ok (.ireturn, 1) := by decide +kernel
theorem dX10_then_12 : decode cX10_then 12 = .ok (.aload_n 0, 1) := by decide +kernel
theorem dX10_then_13 : decode cX10_then 13 = .ok (.invokevirtual 132, 3) := by decide +kernel
theorem dX10_then_16 : decode cX10_then 16 = .ok (.ifCond .ge 6, 3) := by decide +kernel
theorem dX10_then_19 : decode cX10_then 19 = .ok (.bipush (-5), 2) := by decide +kernel
theorem dX10_then_21 : decode cX10_then 21 = .ok (.ireturn, 1) := by decide +kernel
theorem dX10_then_22 : decode cX10_then 22 = .ok (.iload_n 1, 1) := by decide +kernel
theorem dX10_then_23 : decode cX10_then 23 = .ok (.tableswitch 53 0 3 #[29, 35, 40, 45], 29) := by decide +kernel
theorem dX10_then_52 : decode cX10_then 52 = .ok (.aload_n 0, 1) := by decide +kernel
theorem dX10_then_53 : decode cX10_then 53 = .ok (.iconst 0, 1) := by decide +kernel
theorem dX10_then_54 : decode cX10_then 54 = .ok (.invokevirtual 73, 3) := by decide +kernel
theorem dX10_then_57 : decode cX10_then 57 = .ok (.ireturn, 1) := by decide +kernel
theorem dX10_then_58 : decode cX10_then 58 = .ok (.aload_n 0, 1) := by decide +kernel
theorem dX10_then_59 : decode cX10_then 59 = .ok (.getfield 92, 3) := by decide +kernel
theorem dX10_then_62 : decode cX10_then 62 = .ok (.ireturn, 1) := by decide +kernel
theorem dX10_then_63 : decode cX10_then 63 = .ok (.aload_n 0, 1) := by decide +kernel
theorem dX10_then_64 : decode cX10_then 64 = .ok (.invokevirtual 135, 3) := by decide +kernel
theorem dX10_then_67 : decode cX10_then 67 = .ok (.ireturn, 1) := by decide +kernel
theorem dX10_then_68 : decode cX10_then 68 = .ok (.aload_n 0, 1) := by decide +kernel
theorem dX10_then_69 : decode cX10_then 69 = .ok (.getfield 13, 3) := by decide +kernel
theorem dX10_then_72 : decode cX10_then 72 = .ok (.bipush 63, 2) := by decide +kernel
theorem dX10_then_74 : decode cX10_then 74 = .ok (.iaload, 1) := by decide +kernel
theorem dX10_then_75 : decode cX10_then 75 = .ok (.ireturn, 1) := by decide +kernel
theorem dX10_then_76 : decode cX10_then 76 = .ok (.iload_n 1, 1) := by decide +kernel
theorem dX10_then_77 : decode cX10_then 77 = .ok (.iconst 4, 1) := by decide +kernel
theorem dX10_then_78 : decode cX10_then 78 = .ok (.if_icmp .ne 10, 3) := by decide +kernel
theorem dX10_then_81 : decode cX10_then 81 = .ok (.aload_n 0, 1) := by decide +kernel
theorem dX10_then_82 : decode cX10_then 82 = .ok (.getfield 95, 3) := by decide +kernel
theorem dX10_then_85 : decode cX10_then 85 = .ok (.goto 7, 3) := by decide +kernel
theorem dX10_then_88 : decode cX10_then 88 = .ok (.aload_n 0, 1) := by decide +kernel
theorem dX10_then_89 : decode cX10_then 89 = .ok (.getfield 98, 3) := by decide +kernel
theorem dX10_then_92 : decode cX10_then 92 = .ok (.ireturn, 1) := by decide +kernel
theorem dX10_layApart_0 : decode cX10_layApart 0 = .ok (.iconst 0, 1) := by decide +kernel
theorem dX10_layApart_1 : decode cX10_layApart 1 = .ok (.istore_n 1, 1) := by decide +kernel
theorem dX10_layApart_2 : decode cX10_layApart 2 = .ok (.iload_n 1, 1) := by decide +kernel
theorem dX10_layApart_3 : decode cX10_layApart 3 = .ok (.bipush 49, 2) := by decide +kernel
theorem dX10_layApart_5 : decode cX10_layApart 5 = .ok (.if_icmp .ge 50, 3) := by decide +kernel
theorem dX10_layApart_8 : decode cX10_layApart 8 = .ok (.aload_n 0, 1) := by decide +kernel
theorem dX10_layApart_9 : decode cX10_layApart 9 = .ok (.getfield 31, 3) := by decide +kernel
theorem dX10_layApart_12 : decode cX10_layApart 12 = .ok (.iload_n 1, 1) := by decide +kernel
theorem dX10_layApart_13 : decode cX10_layApart 13 = .ok (.iload_n 1, 1) := by decide +kernel
theorem dX10_layApart_14 : decode cX10_layApart 14 = .ok (.bipush 7, 2) := by decide +kernel
theorem dX10_layApart_16 : decode cX10_layApart 16 = .ok (.idiv, 1) := by decide +kernel
theorem dX10_layApart_17 : decode cX10_layApart 17 = .ok (.iload_n 1, 1) := by decide +kernel
theorem dX10_layApart_18 : decode cX10_layApart 18 = .ok (.bipush 7, 2) := by decide +kernel
theorem dX10_layApart_20 : decode cX10_layApart 20 = .ok (.irem, 1) := by decide +kernel
theorem dX10_layApart_21 : decode cX10_layApart 21 = .ok (.if_icmp .ne 7, 3) := by decide +kernel
theorem dX10_layApart_24 : decode cX10_layApart 24 = .ok (.iconst 0, 1) := by decide +kernel
theorem dX10_layApart_25 : decode cX10_layApart 25 = .ok (.goto 23, 3) := by decide +kernel
theorem dX10_layApart_28 : decode cX10_layApart 28 = .ok (.aload_n 0, 1) := by decide +kernel
theorem dX10_layApart_29 : decode cX10_layApart 29 = .ok (.getfield 16, 3) := by decide +kernel
theorem dX10_layApart_32 : decode cX10_layApart 32 = .ok (.iload_n 1, 1) := by decide +kernel
theorem dX10_layApart_33 : decode cX10_layApart 33 = .ok (.iaload, 1) := by decide +kernel
theorem dX10_layApart_34 : decode cX10_layApart 34 = .ok (.ifCond .le 12, 3) := by decide +kernel
theorem dX10_layApart_37 : decode cX10_layApart 37 = .ok (.aload_n 0, 1) := by decide +kernel
theorem dX10_layApart_38 : decode cX10_layApart 38 = .ok (.getfield 16, 3) := by decide +kernel
theorem dX10_layApart_41 : decode cX10_layApart 41 = .ok (.iload_n 1, 1) := by decide +kernel
theorem dX10_layApart_42 : decode cX10_layApart 42 = .ok (.iaload, 1) := by decide +kernel
theorem dX10_layApart_43 : decode cX10_layApart 43 = .ok (.goto 5, 3) := by decide +kernel
theorem dX10_layApart_46 : decode cX10_layApart 46 = .ok (.ldc 138, 2) := by decide +kernel
theorem dX10_layApart_48 : decode cX10_layApart 48 = .ok (.iastore, 1) := by decide +kernel
theorem dX10_layApart_49 : decode cX10_layApart 49 = .ok (.iinc 1 1, 3) := by decide +kernel
theorem dX10_layApart_52 : decode cX10_layApart 52 = .ok (.goto (-50), 3) := by decide +kernel
theorem dX10_layApart_55 : decode cX10_layApart 55 = .ok (.iconst 0, 1) := by decide +kernel
theorem dX10_layApart_56 : decode cX10_layApart 56 = .ok (.istore_n 1, 1) := by decide +kernel
theorem dX10_layApart_57 : decode cX10_layApart 57 = .ok (.iload_n 1, 1) := by decide +kernel
theorem dX10_layApart_58 : decode cX10_layApart 58 = .ok (.bipush 7, 2) := by decide +kernel
theorem dX10_layApart_60 : decode cX10_layApart 60 = .ok (.if_icmp .ge 79, 3) := by decide +kernel
theorem dX10_layApart_63 : decode cX10_layApart 63 = .ok (.iconst 0, 1) := by decide +kernel
theorem dX10_layApart_64 : decode cX10_layApart 64 = .ok (.istore_n 2, 1) := by decide +kernel
theorem dX10_layApart_65 : decode cX10_layApart 65 = .ok (.iload_n 2, 1) := by decide +kernel
theorem dX10_layApart_66 : decode cX10_layApart 66 = .ok (.bipush 49, 2) := by decide +kernel
theorem dX10_layApart_68 : decode cX10_layApart 68 = .ok (.if_icmp .ge 65, 3) := by decide +kernel
theorem dX10_layApart_71 : decode cX10_layApart 71 = .ok (.aload_n 0, 1) := by decide +kernel
theorem dX10_layApart_72 : decode cX10_layApart 72 = .ok (.getfield 31, 3) := by decide +kernel
theorem dX10_layApart_75 : decode cX10_layApart 75 = .ok (.iload_n 2, 1) := by decide +kernel
theorem dX10_layApart_76 : decode cX10_layApart 76 = .ok (.bipush 7, 2) := by decide +kernel
theorem dX10_layApart_78 : decode cX10_layApart 78 = .ok (.idiv, 1) := by decide +kernel
theorem dX10_layApart_79 : decode cX10_layApart 79 = .ok (.bipush 7, 2) := by decide +kernel
theorem dX10_layApart_81 : decode cX10_layApart 81 = .ok (.imul, 1) := by decide +kernel
theorem dX10_layApart_82 : decode cX10_layApart 82 = .ok (.iload_n 1, 1) := by decide +kernel
theorem dX10_layApart_83 : decode cX10_layApart 83 = .ok (.iadd, 1) := by decide +kernel
theorem dX10_layApart_84 : decode cX10_layApart 84 = .ok (.iaload, 1) := by decide +kernel
theorem dX10_layApart_85 : decode cX10_layApart 85 = .ok (.aload_n 0, 1) := by decide +kernel
theorem dX10_layApart_86 : decode cX10_layApart 86 = .ok (.getfield 31, 3) := by decide +kernel
theorem dX10_layApart_89 : decode cX10_layApart 89 = .ok (.bipush 7, 2) := by decide +kernel
theorem dX10_layApart_91 : decode cX10_layApart 91 = .ok (.iload_n 1, 1) := by decide +kernel
theorem dX10_layApart_92 : decode cX10_layApart 92 = .ok (.imul, 1) := by decide +kernel
theorem dX10_layApart_93 : decode cX10_layApart 93 = .ok (.iload_n 2, 1) := by decide +kernel
theorem dX10_layApart_94 : decode cX10_layApart 94 = .ok (.bipush 7, 2) := by decide +kernel
theorem dX10_layApart_96 : decode cX10_layApart 96 = .ok (.irem, 1) := by decide +kernel
theorem dX10_layApart_97 : decode cX10_layApart 97 = .ok (.iadd, 1) := by decide +kernel
theorem dX10_layApart_98 : decode cX10_layApart 98 = .ok (.iaload, 1) := by decide +kernel
theorem dX10_layApart_99 : decode cX10_layApart 99 = .ok (.iadd, 1) := by decide +kernel
theorem dX10_layApart_100 : decode cX10_layApart 100 = .ok (.istore_n 3, 1) := by decide +kernel
theorem dX10_layApart_101 : decode cX10_layApart 101 = .ok (.aload_n 0, 1) := by decide +kernel
theorem dX10_layApart_102 : decode cX10_layApart 102 = .ok (.getfield 31, 3) := by decide +kernel
theorem dX10_layApart_105 : decode cX10_layApart 105 = .ok (.iload_n 2, 1) := by decide +kernel
theorem dX10_layApart_106 : decode cX10_layApart 106 = .ok (.iload_n 3, 1) := by decide +kernel
theorem dX10_layApart_107 : decode cX10_layApart 107 = .ok (.aload_n 0, 1) := by decide +kernel
theorem dX10_layApart_108 : decode cX10_layApart 108 = .ok (.getfield 31, 3) := by decide +kernel
theorem dX10_layApart_111 : decode cX10_layApart 111 = .ok (.iload_n 2, 1) := by decide +kernel
theorem dX10_layApart_112 : decode cX10_layApart 112 = .ok (.iaload, 1) := by decide +kernel
theorem dX10_layApart_113 : decode cX10_layApart 113 = .ok (.if_icmp .ge 7, 3) := by decide +kernel
theorem dX10_layApart_116 : decode cX10_layApart 116 = .ok (.iload_n 3, 1) := by decide +kernel
theorem dX10_layApart_117 : decode cX10_layApart 117 = .ok (.goto 9, 3) := by decide +kernel
theorem dX10_layApart_120 : decode cX10_layApart 120 = .ok (.aload_n 0, 1) := by decide +kernel
theorem dX10_layApart_121 : decode cX10_layApart 121 = .ok (.getfield 31, 3) := by decide +kernel
theorem dX10_layApart_124 : decode cX10_layApart 124 = .ok (.iload_n 2, 1) := by decide +kernel
theorem dX10_layApart_125 : decode cX10_layApart 125 = .ok (.iaload, 1) := by decide +kernel
theorem dX10_layApart_126 : decode cX10_layApart 126 = .ok (.iastore, 1) := by decide +kernel
theorem dX10_layApart_127 : decode cX10_layApart 127 = .ok (.iinc 2 1, 3) := by decide +kernel
theorem dX10_layApart_130 : decode cX10_layApart 130 = .ok (.goto (-65), 3) := by decide +kernel
theorem dX10_layApart_133 : decode cX10_layApart 133 = .ok (.iinc 1 1, 3) := by decide +kernel
theorem dX10_layApart_136 : decode cX10_layApart 136 = .ok (.goto (-79), 3) := by decide +kernel
theorem dX10_layApart_139 : decode cX10_layApart 139 = .ok (.return_, 1) := by decide +kernel
theorem dX10_round_0 : decode cX10_round 0 = .ok (.iload_n 1, 1) := by decide +kernel
theorem dX10_round_1 : decode cX10_round 1 = .ok (.invokestatic 66, 3) := by decide +kernel
theorem dX10_round_4 : decode cX10_round 4 = .ok (.ifCond .eq 10, 3) := by decide +kernel
theorem dX10_round_7 : decode cX10_round 7 = .ok (.iload_n 2, 1) := by decide +kernel
theorem dX10_round_8 : decode cX10_round 8 = .ok (.invokestatic 66, 3) := by decide +kernel
theorem dX10_round_11 : decode cX10_round 11 = .ok (.ifCond .ne 5, 3) := by decide +kernel
theorem dX10_round_14 : decode cX10_round 14 = .ok (.iconst (-1), 1) := by decide +kernel
theorem dX10_round_15 : decode cX10_round 15 = .ok (.ireturn, 1) := by decide +kernel
theorem dX10_round_16 : decode cX10_round 16 = .ok (.aload_n 0, 1) := by decide +kernel
theorem dX10_round_17 : decode cX10_round 17 = .ok (.invokevirtual 139, 3) := by decide +kernel
theorem dX10_round_20 : decode cX10_round 20 = .ok (.aload_n 0, 1) := by decide +kernel
theorem dX10_round_21 : decode cX10_round 21 = .ok (.getfield 31, 3) := by decide +kernel
theorem dX10_round_24 : decode cX10_round 24 = .ok (.bipush 7, 2) := by decide +kernel
theorem dX10_round_26 : decode cX10_round 26 = .ok (.iload_n 1, 1) := by decide +kernel
theorem dX10_round_27 : decode cX10_round 27 = .ok (.imul, 1) := by decide +kernel
theorem dX10_round_28 : decode cX10_round 28 = .ok (.iload_n 2, 1) := by decide +kernel
theorem dX10_round_29 : decode cX10_round 29 = .ok (.iadd, 1) := by decide +kernel
theorem dX10_round_30 : decode cX10_round 30 = .ok (.iaload, 1) := by decide +kernel
theorem dX10_round_31 : decode cX10_round 31 = .ok (.ldc 138, 2) := by decide +kernel
theorem dX10_round_33 : decode cX10_round 33 = .ok (.if_icmp .ge 17, 3) := by decide +kernel
theorem dX10_round_36 : decode cX10_round 36 = .ok (.aload_n 0, 1) := by decide +kernel
theorem dX10_round_37 : decode cX10_round 37 = .ok (.getfield 31, 3) := by decide +kernel
theorem dX10_round_40 : decode cX10_round 40 = .ok (.bipush 7, 2) := by decide +kernel
theorem dX10_round_42 : decode cX10_round 42 = .ok (.iload_n 1, 1) := by decide +kernel
theorem dX10_round_43 : decode cX10_round 43 = .ok (.imul, 1) := by decide +kernel
theorem dX10_round_44 : decode cX10_round 44 = .ok (.iload_n 2, 1) := by decide +kernel
theorem dX10_round_45 : decode cX10_round 45 = .ok (.iadd, 1) := by decide +kernel
theorem dX10_round_46 : decode cX10_round 46 = .ok (.iaload, 1) := by decide +kernel
theorem dX10_round_47 : decode cX10_round 47 = .ok (.goto 5, 3) := by decide +kernel
theorem dX10_round_50 : decode cX10_round 50 = .ok (.bipush (-6), 2) := by decide +kernel
theorem dX10_round_52 : decode cX10_round 52 = .ok (.ireturn, 1) := by decide +kernel
theorem dX10_mends_0 : decode cX10_mends 0 = .ok (.iload_n 1, 1) := by decide +kernel
theorem dX10_mends_1 : decode cX10_mends 1 = .ok (.invokestatic 66, 3) := by decide +kernel
theorem dX10_mends_4 : decode cX10_mends 4 = .ok (.ifCond .ne 5, 3) := by decide +kernel
theorem dX10_mends_7 : decode cX10_mends 7 = .ok (.iconst (-1), 1) := by decide +kernel
theorem dX10_mends_8 : decode cX10_mends 8 = .ok (.ireturn, 1) := by decide +kernel
theorem dX10_mends_9 : decode cX10_mends 9 = .ok (.aload_n 0, 1) := by decide +kernel
theorem dX10_mends_10 : decode cX10_mends 10 = .ok (.invokevirtual 139, 3) := by decide +kernel
theorem dX10_mends_13 : decode cX10_mends 13 = .ok (.iconst 0, 1) := by decide +kernel
theorem dX10_mends_14 : decode cX10_mends 14 = .ok (.istore_n 2, 1) := by decide +kernel
theorem dX10_mends_15 : decode cX10_mends 15 = .ok (.iconst 0, 1) := by decide +kernel
theorem dX10_mends_16 : decode cX10_mends 16 = .ok (.istore_n 3, 1) := by decide +kernel
theorem dX10_mends_17 : decode cX10_mends 17 = .ok (.iload_n 3, 1) := by decide +kernel
theorem dX10_mends_18 : decode cX10_mends 18 = .ok (.bipush 7, 2) := by decide +kernel
theorem dX10_mends_20 : decode cX10_mends 20 = .ok (.if_icmp .ge 39, 3) := by decide +kernel
theorem dX10_mends_23 : decode cX10_mends 23 = .ok (.iload_n 2, 1) := by decide +kernel
theorem dX10_mends_24 : decode cX10_mends 24 = .ok (.aload_n 0, 1) := by decide +kernel
theorem dX10_mends_25 : decode cX10_mends 25 = .ok (.getfield 7, 3) := by decide +kernel
theorem dX10_mends_28 : decode cX10_mends 28 = .ok (.bipush 7, 2) := by decide +kernel
theorem dX10_mends_30 : decode cX10_mends 30 = .ok (.iload_n 1, 1) := by decide +kernel
theorem dX10_mends_31 : decode cX10_mends 31 = .ok (.imul, 1) := by decide +kernel
theorem dX10_mends_32 : decode cX10_mends 32 = .ok (.iload_n 3, 1) := by decide +kernel
theorem dX10_mends_33 : decode cX10_mends 33 = .ok (.iadd, 1) := by decide +kernel
theorem dX10_mends_34 : decode cX10_mends 34 = .ok (.iaload, 1) := by decide +kernel
theorem dX10_mends_35 : decode cX10_mends 35 = .ok (.iconst 0, 1) := by decide +kernel
theorem dX10_mends_36 : decode cX10_mends 36 = .ok (.bipush 8, 2) := by decide +kernel
theorem dX10_mends_38 : decode cX10_mends 38 = .ok (.invokestatic 62, 3) := by decide +kernel
theorem dX10_mends_41 : decode cX10_mends 41 = .ok (.ifCond .eq 9, 3) := by decide +kernel
theorem dX10_mends_44 : decode cX10_mends 44 = .ok (.iconst 1, 1) := by decide +kernel
theorem dX10_mends_45 : decode cX10_mends 45 = .ok (.iload_n 3, 1) := by decide +kernel
theorem dX10_mends_46 : decode cX10_mends 46 = .ok (.ishl, 1) := by decide +kernel
theorem dX10_mends_47 : decode cX10_mends 47 = .ok (.goto 4, 3) := by decide +kernel
theorem dX10_mends_50 : decode cX10_mends 50 = .ok (.iconst 0, 1) := by decide +kernel
theorem dX10_mends_51 : decode cX10_mends 51 = .ok (.ior, 1) := by decide +kernel
theorem dX10_mends_52 : decode cX10_mends 52 = .ok (.istore_n 2, 1) := by decide +kernel
theorem dX10_mends_53 : decode cX10_mends 53 = .ok (.iinc 3 1, 3) := by decide +kernel
theorem dX10_mends_56 : decode cX10_mends 56 = .ok (.goto (-39), 3) := by decide +kernel
theorem dX10_mends_59 : decode cX10_mends 59 = .ok (.iconst 1, 1) := by decide +kernel
theorem dX10_mends_60 : decode cX10_mends 60 = .ok (.istore_n 3, 1) := by decide +kernel
theorem dX10_mends_61 : decode cX10_mends 61 = .ok (.iload_n 3, 1) := by decide +kernel
theorem dX10_mends_62 : decode cX10_mends 62 = .ok (.iload_n 2, 1) := by decide +kernel
theorem dX10_mends_63 : decode cX10_mends 63 = .ok (.if_icmp .gt 172, 3) := by decide +kernel
theorem dX10_mends_66 : decode cX10_mends 66 = .ok (.iconst 0, 1) := by decide +kernel
theorem dX10_mends_67 : decode cX10_mends 67 = .ok (.istore 4, 2) := by decide +kernel
theorem dX10_mends_69 : decode cX10_mends 69 = .ok (.iload 4, 2) := by decide +kernel
theorem dX10_mends_71 : decode cX10_mends 71 = .ok (.bipush 7, 2) := by decide +kernel
theorem dX10_mends_73 : decode cX10_mends 73 = .ok (.if_icmp .ge 156, 3) := by decide +kernel
theorem dX10_mends_76 : decode cX10_mends 76 = .ok (.iload_n 3, 1) := by decide +kernel
theorem dX10_mends_77 : decode cX10_mends 77 = .ok (.iconst 1, 1) := by decide +kernel
theorem dX10_mends_78 : decode cX10_mends 78 = .ok (.iload 4, 2) := by decide +kernel
theorem dX10_mends_80 : decode cX10_mends 80 = .ok (.ishl, 1) := by decide +kernel
theorem dX10_mends_81 : decode cX10_mends 81 = .ok (.iconst (-1), 1) := by decide +kernel
theorem dX10_mends_82 : decode cX10_mends 82 = .ok (.ixor, 1) := by decide +kernel
theorem dX10_mends_83 : decode cX10_mends 83 = .ok (.iand, 1) := by decide +kernel
theorem dX10_mends_84 : decode cX10_mends 84 = .ok (.istore 5, 2) := by decide +kernel
theorem dX10_mends_86 : decode cX10_mends 86 = .ok (.iload 5, 2) := by decide +kernel
theorem dX10_mends_88 : decode cX10_mends 88 = .ok (.ifCond .ne 18, 3) := by decide +kernel
theorem dX10_mends_91 : decode cX10_mends 91 = .ok (.aload_n 0, 1) := by decide +kernel
theorem dX10_mends_92 : decode cX10_mends 92 = .ok (.getfield 31, 3) := by decide +kernel
theorem dX10_mends_95 : decode cX10_mends 95 = .ok (.bipush 7, 2) := by decide +kernel
theorem dX10_mends_97 : decode cX10_mends 97 = .ok (.iload_n 1, 1) := by decide +kernel
theorem dX10_mends_98 : decode cX10_mends 98 = .ok (.imul, 1) := by decide +kernel
theorem dX10_mends_99 : decode cX10_mends 99 = .ok (.iload 4, 2) := by decide +kernel
theorem dX10_mends_101 : decode cX10_mends 101 = .ok (.iadd, 1) := by decide +kernel
theorem dX10_mends_102 : decode cX10_mends 102 = .ok (.iaload, 1) := by decide +kernel
theorem dX10_mends_103 : decode cX10_mends 103 = .ok (.goto 5, 3) := by decide +kernel
theorem dX10_mends_106 : decode cX10_mends 106 = .ok (.ldc 138, 2) := by decide +kernel
theorem dX10_mends_108 : decode cX10_mends 108 = .ok (.istore 6, 2) := by decide +kernel
theorem dX10_mends_110 : decode cX10_mends 110 = .ok (.iconst 0, 1) := by decide +kernel
theorem dX10_mends_111 : decode cX10_mends 111 = .ok (.istore 7, 2) := by decide +kernel
theorem dX10_mends_113 : decode cX10_mends 113 = .ok (.iload 7, 2) := by decide +kernel
theorem dX10_mends_115 : decode cX10_mends 115 = .ok (.bipush 7, 2) := by decide +kernel
theorem dX10_mends_117 : decode cX10_mends 117 = .ok (.if_icmp .ge 78, 3) := by decide +kernel
theorem dX10_mends_120 : decode cX10_mends 120 = .ok (.iload_n 3, 1) := by decide +kernel
theorem dX10_mends_121 : decode cX10_mends 121 = .ok (.iload 4, 2) := by decide +kernel
theorem dX10_mends_123 : decode cX10_mends 123 = .ok (.invokestatic 142, 3) := by decide +kernel
theorem dX10_mends_126 : decode cX10_mends 126 = .ok (.ifCond .eq 69, 3) := by decide +kernel
theorem dX10_mends_129 : decode cX10_mends 129 = .ok (.iload 5, 2) := by decide +kernel
theorem dX10_mends_131 : decode cX10_mends 131 = .ok (.iload 7, 2) := by decide +kernel
theorem dX10_mends_133 : decode cX10_mends 133 = .ok (.invokestatic 142, 3) := by decide +kernel
theorem dX10_mends_136 : decode cX10_mends 136 = .ok (.ifCond .eq 33, 3) := by decide +kernel
theorem dX10_mends_139 : decode cX10_mends 139 = .ok (.aload_n 0, 1) := by decide +kernel
theorem dX10_mends_140 : decode cX10_mends 140 = .ok (.getfield 34, 3) := by decide +kernel
theorem dX10_mends_143 : decode cX10_mends 143 = .ok (.bipush 7, 2) := by decide +kernel
theorem dX10_mends_145 : decode cX10_mends 145 = .ok (.iload 5, 2) := by decide +kernel
theorem dX10_mends_147 : decode cX10_mends 147 = .ok (.imul, 1) := by decide +kernel
theorem dX10_mends_148 : decode cX10_mends 148 = .ok (.iload 7, 2) := by decide +kernel
theorem dX10_mends_150 : decode cX10_mends 150 = .ok (.iadd, 1) := by decide +kernel
theorem dX10_mends_151 : decode cX10_mends 151 = .ok (.iaload, 1) := by decide +kernel
theorem dX10_mends_152 : decode cX10_mends 152 = .ok (.aload_n 0, 1) := by decide +kernel
theorem dX10_mends_153 : decode cX10_mends 153 = .ok (.getfield 31, 3) := by decide +kernel
theorem dX10_mends_156 : decode cX10_mends 156 = .ok (.bipush 7, 2) := by decide +kernel
theorem dX10_mends_158 : decode cX10_mends 158 = .ok (.iload 7, 2) := by decide +kernel
theorem dX10_mends_160 : decode cX10_mends 160 = .ok (.imul, 1) := by decide +kernel
theorem dX10_mends_161 : decode cX10_mends 161 = .ok (.iload 4, 2) := by decide +kernel
theorem dX10_mends_163 : decode cX10_mends 163 = .ok (.iadd, 1) := by decide +kernel
theorem dX10_mends_164 : decode cX10_mends 164 = .ok (.iaload, 1) := by decide +kernel
theorem dX10_mends_165 : decode cX10_mends 165 = .ok (.iadd, 1) := by decide +kernel
theorem dX10_mends_166 : decode cX10_mends 166 = .ok (.goto 5, 3) := by decide +kernel
theorem dX10_mends_169 : decode cX10_mends 169 = .ok (.ldc 138, 2) := by decide +kernel
theorem dX10_mends_171 : decode cX10_mends 171 = .ok (.istore 8, 2) := by decide +kernel
theorem dX10_mends_173 : decode cX10_mends 173 = .ok (.iload 8, 2) := by decide +kernel
theorem dX10_mends_175 : decode cX10_mends 175 = .ok (.iload 6, 2) := by decide +kernel
theorem dX10_mends_177 : decode cX10_mends 177 = .ok (.if_icmp .ge 8, 3) := by decide +kernel
theorem dX10_mends_180 : decode cX10_mends 180 = .ok (.iload 8, 2) := by decide +kernel
theorem dX10_mends_182 : decode cX10_mends 182 = .ok (.goto 5, 3) := by decide +kernel
theorem dX10_mends_185 : decode cX10_mends 185 = .ok (.iload 6, 2) := by decide +kernel
theorem dX10_mends_187 : decode cX10_mends 187 = .ok (.istore 6, 2) := by decide +kernel
theorem dX10_mends_189 : decode cX10_mends 189 = .ok (.iinc 7 1, 3) := by decide +kernel
theorem dX10_mends_192 : decode cX10_mends 192 = .ok (.goto (-79), 3) := by decide +kernel
theorem dX10_mends_195 : decode cX10_mends 195 = .ok (.aload_n 0, 1) := by decide +kernel
theorem dX10_mends_196 : decode cX10_mends 196 = .ok (.getfield 34, 3) := by decide +kernel
theorem dX10_mends_199 : decode cX10_mends 199 = .ok (.bipush 7, 2) := by decide +kernel
theorem dX10_mends_201 : decode cX10_mends 201 = .ok (.iload_n 3, 1) := by decide +kernel
theorem dX10_mends_202 : decode cX10_mends 202 = .ok (.imul, 1) := by decide +kernel
theorem dX10_mends_203 : decode cX10_mends 203 = .ok (.iload 4, 2) := by decide +kernel
theorem dX10_mends_205 : decode cX10_mends 205 = .ok (.iadd, 1) := by decide +kernel
theorem dX10_mends_206 : decode cX10_mends 206 = .ok (.iload_n 3, 1) := by decide +kernel
theorem dX10_mends_207 : decode cX10_mends 207 = .ok (.iload 4, 2) := by decide +kernel
theorem dX10_mends_209 : decode cX10_mends 209 = .ok (.invokestatic 142, 3) := by decide +kernel
theorem dX10_mends_212 : decode cX10_mends 212 = .ok (.ifCond .eq 8, 3) := by decide +kernel
theorem dX10_mends_215 : decode cX10_mends 215 = .ok (.iload 6, 2) := by decide +kernel
theorem dX10_mends_217 : decode cX10_mends 217 = .ok (.goto 5, 3) := by decide +kernel
theorem dX10_mends_220 : decode cX10_mends 220 = .ok (.ldc 138, 2) := by decide +kernel
theorem dX10_mends_222 : decode cX10_mends 222 = .ok (.iastore, 1) := by decide +kernel
theorem dX10_mends_223 : decode cX10_mends 223 = .ok (.iinc 4 1, 3) := by decide +kernel
theorem dX10_mends_226 : decode cX10_mends 226 = .ok (.goto (-157), 3) := by decide +kernel
theorem dX10_mends_229 : decode cX10_mends 229 = .ok (.iinc 3 1, 3) := by decide +kernel
theorem dX10_mends_232 : decode cX10_mends 232 = .ok (.goto (-171), 3) := by decide +kernel
theorem dX10_mends_235 : decode cX10_mends 235 = .ok (.iload_n 2, 1) := by decide +kernel
theorem dX10_mends_236 : decode cX10_mends 236 = .ok (.ifCond .ne 7, 3) := by decide +kernel
theorem dX10_mends_239 : decode cX10_mends 239 = .ok (.iconst 0, 1) := by decide +kernel
theorem dX10_mends_240 : decode cX10_mends 240 = .ok (.goto 5, 3) := by decide +kernel
theorem dX10_mends_243 : decode cX10_mends 243 = .ok (.ldc 138, 2) := by decide +kernel
theorem dX10_mends_245 : decode cX10_mends 245 = .ok (.istore_n 3, 1) := by decide +kernel
theorem dX10_mends_246 : decode cX10_mends 246 = .ok (.iconst 0, 1) := by decide +kernel
theorem dX10_mends_247 : decode cX10_mends 247 = .ok (.istore 4, 2) := by decide +kernel
theorem dX10_mends_249 : decode cX10_mends 249 = .ok (.iload 4, 2) := by decide +kernel
theorem dX10_mends_251 : decode cX10_mends 251 = .ok (.bipush 7, 2) := by decide +kernel
theorem dX10_mends_253 : decode cX10_mends 253 = .ok (.if_icmp .ge 63, 3) := by decide +kernel
theorem dX10_mends_256 : decode cX10_mends 256 = .ok (.iload_n 2, 1) := by decide +kernel
theorem dX10_mends_257 : decode cX10_mends 257 = .ok (.iload 4, 2) := by decide +kernel
theorem dX10_mends_259 : decode cX10_mends 259 = .ok (.invokestatic 142, 3) := by decide +kernel
theorem dX10_mends_262 : decode cX10_mends 262 = .ok (.ifCond .eq 31, 3) := by decide +kernel
theorem dX10_mends_265 : decode cX10_mends 265 = .ok (.aload_n 0, 1) := by decide +kernel
theorem dX10_mends_266 : decode cX10_mends 266 = .ok (.getfield 34, 3) := by decide +kernel
theorem dX10_mends_269 : decode cX10_mends 269 = .ok (.bipush 7, 2) := by decide +kernel
theorem dX10_mends_271 : decode cX10_mends 271 = .ok (.iload_n 2, 1) := by decide +kernel
theorem dX10_mends_272 : decode cX10_mends 272 = .ok (.imul, 1) := by decide +kernel
theorem dX10_mends_273 : decode cX10_mends 273 = .ok (.iload 4, 2) := by decide +kernel
theorem dX10_mends_275 : decode cX10_mends 275 = .ok (.iadd, 1) := by decide +kernel
theorem dX10_mends_276 : decode cX10_mends 276 = .ok (.iaload, 1) := by decide +kernel
theorem dX10_mends_277 : decode cX10_mends 277 = .ok (.aload_n 0, 1) := by decide +kernel
theorem dX10_mends_278 : decode cX10_mends 278 = .ok (.getfield 31, 3) := by decide +kernel
theorem dX10_mends_281 : decode cX10_mends 281 = .ok (.bipush 7, 2) := by decide +kernel
theorem dX10_mends_283 : decode cX10_mends 283 = .ok (.iload 4, 2) := by decide +kernel
theorem dX10_mends_285 : decode cX10_mends 285 = .ok (.imul, 1) := by decide +kernel
theorem dX10_mends_286 : decode cX10_mends 286 = .ok (.iload_n 1, 1) := by decide +kernel
theorem dX10_mends_287 : decode cX10_mends 287 = .ok (.iadd, 1) := by decide +kernel
theorem dX10_mends_288 : decode cX10_mends 288 = .ok (.iaload, 1) := by decide +kernel
theorem dX10_mends_289 : decode cX10_mends 289 = .ok (.iadd, 1) := by decide +kernel
theorem dX10_mends_290 : decode cX10_mends 290 = .ok (.goto 5, 3) := by decide +kernel
theorem dX10_mends_293 : decode cX10_mends 293 = .ok (.ldc 138, 2) := by decide +kernel
theorem dX10_mends_295 : decode cX10_mends 295 = .ok (.istore 5, 2) := by decide +kernel
theorem dX10_mends_297 : decode cX10_mends 297 = .ok (.iload 5, 2) := by decide +kernel
theorem dX10_mends_299 : decode cX10_mends 299 = .ok (.iload_n 3, 1) := by decide +kernel
theorem dX10_mends_300 : decode cX10_mends 300 = .ok (.if_icmp .ge 8, 3) := by decide +kernel
theorem dX10_mends_303 : decode cX10_mends 303 = .ok (.iload 5, 2) := by decide +kernel
theorem dX10_mends_305 : decode cX10_mends 305 = .ok (.goto 4, 3) := by decide +kernel
theorem dX10_mends_308 : decode cX10_mends 308 = .ok (.iload_n 3, 1) := by decide +kernel
theorem dX10_mends_309 : decode cX10_mends 309 = .ok (.istore_n 3, 1) := by decide +kernel
theorem dX10_mends_310 : decode cX10_mends 310 = .ok (.iinc 4 1, 3) := by decide +kernel
theorem dX10_mends_313 : decode cX10_mends 313 = .ok (.goto (-64), 3) := by decide +kernel
theorem dX10_mends_316 : decode cX10_mends 316 = .ok (.iload_n 3, 1) := by decide +kernel
theorem dX10_mends_317 : decode cX10_mends 317 = .ok (.ldc 138, 2) := by decide +kernel
theorem dX10_mends_319 : decode cX10_mends 319 = .ok (.if_icmp .ge 7, 3) := by decide +kernel
theorem dX10_mends_322 : decode cX10_mends 322 = .ok (.iload_n 3, 1) := by decide +kernel
theorem dX10_mends_323 : decode cX10_mends 323 = .ok (.goto 5, 3) := by decide +kernel
theorem dX10_mends_326 : decode cX10_mends 326 = .ok (.bipush (-6), 2) := by decide +kernel
theorem dX10_mends_328 : decode cX10_mends 328 = .ok (.ireturn, 1) := by decide +kernel
theorem dX10_placeOf_0 : decode cX10_placeOf 0 = .ok (.iconst 0, 1) := by decide +kernel
theorem dX10_placeOf_1 : decode cX10_placeOf 1 = .ok (.istore 4, 2) := by decide +kernel
theorem dX10_placeOf_3 : decode cX10_placeOf 3 = .ok (.aload_n 0, 1) := by decide +kernel
theorem dX10_placeOf_4 : decode cX10_placeOf 4 = .ok (.getfield 19, 3) := by decide +kernel
theorem dX10_placeOf_7 : decode cX10_placeOf 7 = .ok (.bipush 16, 2) := by decide +kernel
theorem dX10_placeOf_9 : decode cX10_placeOf 9 = .ok (.iload_n 1, 1) := by decide +kernel
theorem dX10_placeOf_10 : decode cX10_placeOf 10 = .ok (.imul, 1) := by decide +kernel
theorem dX10_placeOf_11 : decode cX10_placeOf 11 = .ok (.iconst 4, 1) := by decide +kernel
theorem dX10_placeOf_12 : decode cX10_placeOf 12 = .ok (.iload_n 2, 1) := by decide +kernel
theorem dX10_placeOf_13 : decode cX10_placeOf 13 = .ok (.imul, 1) := by decide +kernel
theorem dX10_placeOf_14 : decode cX10_placeOf 14 = .ok (.iadd, 1) := by decide +kernel
theorem dX10_placeOf_15 : decode cX10_placeOf 15 = .ok (.iload 4, 2) := by decide +kernel
theorem dX10_placeOf_17 : decode cX10_placeOf 17 = .ok (.iadd, 1) := by decide +kernel
theorem dX10_placeOf_18 : decode cX10_placeOf 18 = .ok (.iaload, 1) := by decide +kernel
theorem dX10_placeOf_19 : decode cX10_placeOf 19 = .ok (.iload_n 3, 1) := by decide +kernel
theorem dX10_placeOf_20 : decode cX10_placeOf 20 = .ok (.if_icmp .eq 9, 3) := by decide +kernel
theorem dX10_placeOf_23 : decode cX10_placeOf 23 = .ok (.iinc 4 1, 3) := by decide +kernel
theorem dX10_placeOf_26 : decode cX10_placeOf 26 = .ok (.goto (-23), 3) := by decide +kernel
theorem dX10_placeOf_29 : decode cX10_placeOf 29 = .ok (.iload 4, 2) := by decide +kernel
theorem dX10_placeOf_31 : decode cX10_placeOf 31 = .ok (.ireturn, 1) := by decide +kernel
theorem dX10_isSteady_0 : decode cX10_isSteady 0 = .ok (.iconst 1, 1) := by decide +kernel
theorem dX10_isSteady_1 : decode cX10_isSteady 1 = .ok (.istore_n 1, 1) := by decide +kernel
theorem dX10_isSteady_2 : decode cX10_isSteady 2 = .ok (.iconst 0, 1) := by decide +kernel
theorem dX10_isSteady_3 : decode cX10_isSteady 3 = .ok (.istore_n 2, 1) := by decide +kernel
theorem dX10_isSteady_4 : decode cX10_isSteady 4 = .ok (.iload_n 2, 1) := by decide +kernel
theorem dX10_isSteady_5 : decode cX10_isSteady 5 = .ok (.iconst 4, 1) := by decide +kernel
theorem dX10_isSteady_6 : decode cX10_isSteady 6 = .ok (.if_icmp .ge 76, 3) := by decide +kernel
theorem dX10_isSteady_9 : decode cX10_isSteady 9 = .ok (.iconst 0, 1) := by decide +kernel
theorem dX10_isSteady_10 : decode cX10_isSteady 10 = .ok (.istore_n 3, 1) := by decide +kernel
theorem dX10_isSteady_11 : decode cX10_isSteady 11 = .ok (.iload_n 3, 1) := by decide +kernel
theorem dX10_isSteady_12 : decode cX10_isSteady 12 = .ok (.iconst 4, 1) := by decide +kernel
theorem dX10_isSteady_13 : decode cX10_isSteady 13 = .ok (.if_icmp .ge 63, 3) := by decide +kernel
theorem dX10_isSteady_16 : decode cX10_isSteady 16 = .ok (.iload_n 1, 1) := by decide +kernel
theorem dX10_isSteady_17 : decode cX10_isSteady 17 = .ok (.ifCond .eq 51, 3) := by decide +kernel
theorem dX10_isSteady_20 : decode cX10_isSteady 20 = .ok (.aload_n 0, 1) := by decide +kernel
theorem dX10_isSteady_21 : decode cX10_isSteady 21 = .ok (.iconst 0, 1) := by decide +kernel
theorem dX10_isSteady_22 : decode cX10_isSteady 22 = .ok (.iload_n 2, 1) := by decide +kernel
theorem dX10_isSteady_23 : decode cX10_isSteady 23 = .ok (.iload_n 3, 1) := by decide +kernel
theorem dX10_isSteady_24 : decode cX10_isSteady 24 = .ok (.invokevirtual 146, 3) := by decide +kernel
theorem dX10_isSteady_27 : decode cX10_isSteady 27 = .ok (.aload_n 0, 1) := by decide +kernel
theorem dX10_isSteady_28 : decode cX10_isSteady 28 = .ok (.iconst 0, 1) := by decide +kernel
theorem dX10_isSteady_29 : decode cX10_isSteady 29 = .ok (.iload_n 2, 1) := by decide +kernel
theorem dX10_isSteady_30 : decode cX10_isSteady 30 = .ok (.aload_n 0, 1) := by decide +kernel
theorem dX10_isSteady_31 : decode cX10_isSteady 31 = .ok (.getfield 37, 3) := by decide +kernel
theorem dX10_isSteady_34 : decode cX10_isSteady 34 = .ok (.iload_n 2, 1) := by decide +kernel
theorem dX10_isSteady_35 : decode cX10_isSteady 35 = .ok (.iaload, 1) := by decide +kernel
theorem dX10_isSteady_36 : decode cX10_isSteady 36 = .ok (.invokevirtual 146, 3) := by decide +kernel
theorem dX10_isSteady_39 : decode cX10_isSteady 39 = .ok (.if_icmp .ge 25, 3) := by decide +kernel
theorem dX10_isSteady_42 : decode cX10_isSteady 42 = .ok (.aload_n 0, 1) := by decide +kernel
theorem dX10_isSteady_43 : decode cX10_isSteady 43 = .ok (.iconst 1, 1) := by decide +kernel
theorem dX10_isSteady_44 : decode cX10_isSteady 44 = .ok (.iload_n 3, 1) := by decide +kernel
theorem dX10_isSteady_45 : decode cX10_isSteady 45 = .ok (.iload_n 2, 1) := by decide +kernel
theorem dX10_isSteady_46 : decode cX10_isSteady 46 = .ok (.invokevirtual 146, 3) := by decide +kernel
theorem dX10_isSteady_49 : decode cX10_isSteady 49 = .ok (.aload_n 0, 1) := by decide +kernel
theorem dX10_isSteady_50 : decode cX10_isSteady 50 = .ok (.iconst 1, 1) := by decide +kernel
theorem dX10_isSteady_51 : decode cX10_isSteady 51 = .ok (.iload_n 3, 1) := by decide +kernel
theorem dX10_isSteady_52 : decode cX10_isSteady 52 = .ok (.aload_n 0, 1) := by decide +kernel
theorem dX10_isSteady_53 : decode cX10_isSteady 53 = .ok (.getfield 40, 3) := by decide +kernel
theorem dX10_isSteady_56 : decode cX10_isSteady 56 = .ok (.iload_n 3, 1) := by decide +kernel
theorem dX10_isSteady_57 : decode cX10_isSteady 57 = .ok (.iaload, 1) := by decide +kernel
theorem dX10_isSteady_58 : decode cX10_isSteady 58 = .ok (.invokevirtual 146, 3) := by decide +kernel
theorem dX10_isSteady_61 : decode cX10_isSteady 61 = .ok (.if_icmp .lt 7, 3) := by decide +kernel
theorem dX10_isSteady_64 : decode cX10_isSteady 64 = .ok (.iconst 1, 1) := by decide +kernel
theorem dX10_isSteady_65 : decode cX10_isSteady 65 = .ok (.goto 4, 3) := by decide +kernel
theorem dX10_isSteady_68 : decode cX10_isSteady 68 = .ok (.iconst 0, 1) := by decide +kernel
theorem dX10_isSteady_69 : decode cX10_isSteady 69 = .ok (.istore_n 1, 1) := by decide +kernel
theorem dX10_isSteady_70 : decode cX10_isSteady 70 = .ok (.iinc 3 1, 3) := by decide +kernel
theorem dX10_isSteady_73 : decode cX10_isSteady 73 = .ok (.goto (-62), 3) := by decide +kernel
theorem dX10_isSteady_76 : decode cX10_isSteady 76 = .ok (.iinc 2 1, 3) := by decide +kernel
theorem dX10_isSteady_79 : decode cX10_isSteady 79 = .ok (.goto (-75), 3) := by decide +kernel
theorem dX10_isSteady_82 : decode cX10_isSteady 82 = .ok (.iload_n 1, 1) := by decide +kernel
theorem dX10_isSteady_83 : decode cX10_isSteady 83 = .ok (.ireturn, 1) := by decide +kernel
theorem dX10_laySteady_0 : decode cX10_laySteady 0 = .ok (.iconst 0, 1) := by decide +kernel
theorem dX10_laySteady_1 : decode cX10_laySteady 1 = .ok (.istore_n 2, 1) := by decide +kernel
theorem dX10_laySteady_2 : decode cX10_laySteady 2 = .ok (.ldc 138, 2) := by decide +kernel
theorem dX10_laySteady_4 : decode cX10_laySteady 4 = .ok (.istore_n 3, 1) := by decide +kernel
theorem dX10_laySteady_5 : decode cX10_laySteady 5 = .ok (.iconst 0, 1) := by decide +kernel
theorem dX10_laySteady_6 : decode cX10_laySteady 6 = .ok (.istore 4, 2) := by decide +kernel
theorem dX10_laySteady_8 : decode cX10_laySteady 8 = .ok (.iload 4, 2) := by decide +kernel
theorem dX10_laySteady_10 : decode cX10_laySteady 10 = .ok (.sipush 256, 3) := by decide +kernel
theorem dX10_laySteady_13 : decode cX10_laySteady 13 = .ok (.if_icmp .ge 179, 3) := by decide +kernel
theorem dX10_laySteady_16 : decode cX10_laySteady 16 = .ok (.iconst 0, 1) := by decide +kernel
theorem dX10_laySteady_17 : decode cX10_laySteady 17 = .ok (.istore 5, 2) := by decide +kernel
theorem dX10_laySteady_19 : decode cX10_laySteady 19 = .ok (.iconst 0, 1) := by decide +kernel
theorem dX10_laySteady_20 : decode cX10_laySteady 20 = .ok (.istore 6, 2) := by decide +kernel
theorem dX10_laySteady_22 : decode cX10_laySteady 22 = .ok (.iconst 0, 1) := by decide +kernel
theorem dX10_laySteady_23 : decode cX10_laySteady 23 = .ok (.istore 7, 2) := by decide +kernel
theorem dX10_laySteady_25 : decode cX10_laySteady 25 = .ok (.iload 7, 2) := by decide +kernel
theorem dX10_laySteady_27 : decode cX10_laySteady 27 = .ok (.iconst 4, 1) := by decide +kernel
theorem dX10_laySteady_28 : decode cX10_laySteady 28 = .ok (.if_icmp .ge 93, 3) := by decide +kernel
theorem dX10_laySteady_31 : decode cX10_laySteady 31 = .ok (.aload_n 0, 1) := by decide +kernel
theorem dX10_laySteady_32 : decode cX10_laySteady 32 = .ok (.getfield 37, 3) := by decide +kernel
theorem dX10_laySteady_35 : decode cX10_laySteady 35 = .ok (.iload 7, 2) := by decide +kernel
theorem dX10_laySteady_37 : decode cX10_laySteady 37 = .ok (.iload 4, 2) := by decide +kernel
theorem dX10_laySteady_39 : decode cX10_laySteady 39 = .ok (.iconst 2, 1) := by decide +kernel
theorem dX10_laySteady_40 : decode cX10_laySteady 40 = .ok (.iload 7, 2) := by decide +kernel
theorem dX10_laySteady_42 : decode cX10_laySteady 42 = .ok (.imul, 1) := by decide +kernel
theorem dX10_laySteady_43 : decode cX10_laySteady 43 = .ok (.ishr, 1) := by decide +kernel
theorem dX10_laySteady_44 : decode cX10_laySteady 44 = .ok (.iconst 3, 1) := by decide +kernel
theorem dX10_laySteady_45 : decode cX10_laySteady 45 = .ok (.iand, 1) := by decide +kernel
theorem dX10_laySteady_46 : decode cX10_laySteady 46 = .ok (.iastore, 1) := by decide +kernel
theorem dX10_laySteady_47 : decode cX10_laySteady 47 = .ok (.aload_n 0, 1) := by decide +kernel
theorem dX10_laySteady_48 : decode cX10_laySteady 48 = .ok (.getfield 40, 3) := by decide +kernel
theorem dX10_laySteady_51 : decode cX10_laySteady 51 = .ok (.aload_n 0, 1) := by decide +kernel
theorem dX10_laySteady_52 : decode cX10_laySteady 52 = .ok (.getfield 37, 3) := by decide +kernel
theorem dX10_laySteady_55 : decode cX10_laySteady 55 = .ok (.iload 7, 2) := by decide +kernel
theorem dX10_laySteady_57 : decode cX10_laySteady 57 = .ok (.iaload, 1) := by decide +kernel
theorem dX10_laySteady_58 : decode cX10_laySteady 58 = .ok (.iload 7, 2) := by decide +kernel
theorem dX10_laySteady_60 : decode cX10_laySteady 60 = .ok (.iastore, 1) := by decide +kernel
theorem dX10_laySteady_61 : decode cX10_laySteady 61 = .ok (.iload 5, 2) := by decide +kernel
theorem dX10_laySteady_63 : decode cX10_laySteady 63 = .ok (.iconst 1, 1) := by decide +kernel
theorem dX10_laySteady_64 : decode cX10_laySteady 64 = .ok (.aload_n 0, 1) := by decide +kernel
theorem dX10_laySteady_65 : decode cX10_laySteady 65 = .ok (.getfield 37, 3) := by decide +kernel
theorem dX10_laySteady_68 : decode cX10_laySteady 68 = .ok (.iload 7, 2) := by decide +kernel
theorem dX10_laySteady_70 : decode cX10_laySteady 70 = .ok (.iaload, 1) := by decide +kernel
theorem dX10_laySteady_71 : decode cX10_laySteady 71 = .ok (.ishl, 1) := by decide +kernel
theorem dX10_laySteady_72 : decode cX10_laySteady 72 = .ok (.ior, 1) := by decide +kernel
theorem dX10_laySteady_73 : decode cX10_laySteady 73 = .ok (.istore 5, 2) := by decide +kernel
theorem dX10_laySteady_75 : decode cX10_laySteady 75 = .ok (.iload 6, 2) := by decide +kernel
theorem dX10_laySteady_77 : decode cX10_laySteady 77 = .ok (.iload_n 1, 1) := by decide +kernel
theorem dX10_laySteady_78 : decode cX10_laySteady 78 = .ok (.ifCond .ne 20, 3) := by decide +kernel
theorem dX10_laySteady_81 : decode cX10_laySteady 81 = .ok (.aload_n 0, 1) := by decide +kernel
theorem dX10_laySteady_82 : decode cX10_laySteady 82 = .ok (.iconst 0, 1) := by decide +kernel
theorem dX10_laySteady_83 : decode cX10_laySteady 83 = .ok (.iload 7, 2) := by decide +kernel
theorem dX10_laySteady_85 : decode cX10_laySteady 85 = .ok (.aload_n 0, 1) := by decide +kernel
theorem dX10_laySteady_86 : decode cX10_laySteady 86 = .ok (.getfield 37, 3) := by decide +kernel
theorem dX10_laySteady_89 : decode cX10_laySteady 89 = .ok (.iload 7, 2) := by decide +kernel
theorem dX10_laySteady_91 : decode cX10_laySteady 91 = .ok (.iaload, 1) := by decide +kernel
theorem dX10_laySteady_92 : decode cX10_laySteady 92 = .ok (.invokevirtual 146, 3) := by decide +kernel
theorem dX10_laySteady_95 : decode cX10_laySteady 95 = .ok (.goto 17, 3) := by decide +kernel
theorem dX10_laySteady_98 : decode cX10_laySteady 98 = .ok (.aload_n 0, 1) := by decide +kernel
theorem dX10_laySteady_99 : decode cX10_laySteady 99 = .ok (.iconst 1, 1) := by decide +kernel
theorem dX10_laySteady_100 : decode cX10_laySteady 100 = .ok (.aload_n 0, 1) := by decide +kernel
theorem dX10_laySteady_101 : decode cX10_laySteady 101 = .ok (.getfield 37, 3) := by decide +kernel
theorem dX10_laySteady_104 : decode cX10_laySteady 104 = .ok (.iload 7, 2) := by decide +kernel
theorem dX10_laySteady_106 : decode cX10_laySteady 106 = .ok (.iaload, 1) := by decide +kernel
theorem dX10_laySteady_107 : decode cX10_laySteady 107 = .ok (.iload 7, 2) := by decide +kernel
theorem dX10_laySteady_109 : decode cX10_laySteady 109 = .ok (.invokevirtual 146, 3) := by decide +kernel
theorem dX10_laySteady_112 : decode cX10_laySteady 112 = .ok (.iadd, 1) := by decide +kernel
theorem dX10_laySteady_113 : decode cX10_laySteady 113 = .ok (.istore 6, 2) := by decide +kernel
theorem dX10_laySteady_115 : decode cX10_laySteady 115 = .ok (.iinc 7 1, 3) := by decide +kernel
theorem dX10_laySteady_118 : decode cX10_laySteady 118 = .ok (.goto (-93), 3) := by decide +kernel
theorem dX10_laySteady_121 : decode cX10_laySteady 121 = .ok (.iload 5, 2) := by decide +kernel
theorem dX10_laySteady_123 : decode cX10_laySteady 123 = .ok (.bipush 15, 2) := by decide +kernel
theorem dX10_laySteady_125 : decode cX10_laySteady 125 = .ok (.if_icmp .ne 61, 3) := by decide +kernel
theorem dX10_laySteady_128 : decode cX10_laySteady 128 = .ok (.aload_n 0, 1) := by decide +kernel
theorem dX10_laySteady_129 : decode cX10_laySteady 129 = .ok (.invokevirtual 150, 3) := by decide +kernel
theorem dX10_laySteady_132 : decode cX10_laySteady 132 = .ok (.ifCond .eq 54, 3) := by decide +kernel
theorem dX10_laySteady_135 : decode cX10_laySteady 135 = .ok (.iinc 2 1, 3) := by decide +kernel
theorem dX10_laySteady_138 : decode cX10_laySteady 138 = .ok (.iconst 0, 1) := by decide +kernel
theorem dX10_laySteady_139 : decode cX10_laySteady 139 = .ok (.istore 7, 2) := by decide +kernel
theorem dX10_laySteady_141 : decode cX10_laySteady 141 = .ok (.iload 7, 2) := by decide +kernel
theorem dX10_laySteady_143 : decode cX10_laySteady 143 = .ok (.iconst 4, 1) := by decide +kernel
theorem dX10_laySteady_144 : decode cX10_laySteady 144 = .ok (.if_icmp .ge 29, 3) := by decide +kernel
theorem dX10_laySteady_147 : decode cX10_laySteady 147 = .ok (.iload 6, 2) := by decide +kernel
theorem dX10_laySteady_149 : decode cX10_laySteady 149 = .ok (.iload_n 3, 1) := by decide +kernel
theorem dX10_laySteady_150 : decode cX10_laySteady 150 = .ok (.if_icmp .ge 23, 3) := by decide +kernel
theorem dX10_laySteady_153 : decode cX10_laySteady 153 = .ok (.aload_n 0, 1) := by decide +kernel
theorem dX10_laySteady_154 : decode cX10_laySteady 154 = .ok (.getfield 43, 3) := by decide +kernel
theorem dX10_laySteady_157 : decode cX10_laySteady 157 = .ok (.iload 7, 2) := by decide +kernel
theorem dX10_laySteady_159 : decode cX10_laySteady 159 = .ok (.aload_n 0, 1) := by decide +kernel
theorem dX10_laySteady_160 : decode cX10_laySteady 160 = .ok (.getfield 37, 3) := by decide +kernel
theorem dX10_laySteady_163 : decode cX10_laySteady 163 = .ok (.iload 7, 2) := by decide +kernel
theorem dX10_laySteady_165 : decode cX10_laySteady 165 = .ok (.iaload, 1) := by decide +kernel
theorem dX10_laySteady_166 : decode cX10_laySteady 166 = .ok (.iastore, 1) := by decide +kernel
theorem dX10_laySteady_167 : decode cX10_laySteady 167 = .ok (.iinc 7 1, 3) := by decide +kernel
theorem dX10_laySteady_170 : decode cX10_laySteady 170 = .ok (.goto (-29), 3) := by decide +kernel
theorem dX10_laySteady_173 : decode cX10_laySteady 173 = .ok (.iload 6, 2) := by decide +kernel
theorem dX10_laySteady_175 : decode cX10_laySteady 175 = .ok (.iload_n 3, 1) := by decide +kernel
theorem dX10_laySteady_176 : decode cX10_laySteady 176 = .ok (.if_icmp .ge 8, 3) := by decide +kernel
theorem dX10_laySteady_179 : decode cX10_laySteady 179 = .ok (.iload 6, 2) := by decide +kernel
theorem dX10_laySteady_181 : decode cX10_laySteady 181 = .ok (.goto 4, 3) := by decide +kernel
theorem dX10_laySteady_184 : decode cX10_laySteady 184 = .ok (.iload_n 3, 1) := by decide +kernel
theorem dX10_laySteady_185 : decode cX10_laySteady 185 = .ok (.istore_n 3, 1) := by decide +kernel
theorem dX10_laySteady_186 : decode cX10_laySteady 186 = .ok (.iinc 4 1, 3) := by decide +kernel
theorem dX10_laySteady_189 : decode cX10_laySteady 189 = .ok (.goto (-181), 3) := by decide +kernel
theorem dX10_laySteady_192 : decode cX10_laySteady 192 = .ok (.iload_n 2, 1) := by decide +kernel
theorem dX10_laySteady_193 : decode cX10_laySteady 193 = .ok (.ireturn, 1) := by decide +kernel
theorem dX10_steady_0 : decode cX10_steady 0 = .ok (.aload_n 0, 1) := by decide +kernel
theorem dX10_steady_1 : decode cX10_steady 1 = .ok (.iconst 0, 1) := by decide +kernel
theorem dX10_steady_2 : decode cX10_steady 2 = .ok (.invokevirtual 154, 3) := by decide +kernel
theorem dX10_steady_5 : decode cX10_steady 5 = .ok (.ireturn, 1) := by decide +kernel
theorem dX10_wed_0 : decode cX10_wed 0 = .ok (.iload_n 1, 1) := by decide +kernel
theorem dX10_wed_1 : decode cX10_wed 1 = .ok (.iconst 0, 1) := by decide +kernel
theorem dX10_wed_2 : decode cX10_wed 2 = .ok (.iconst 1, 1) := by decide +kernel
theorem dX10_wed_3 : decode cX10_wed 3 = .ok (.invokestatic 62, 3) := by decide +kernel
theorem dX10_wed_6 : decode cX10_wed 6 = .ok (.ifCond .eq 12, 3) := by decide +kernel
theorem dX10_wed_9 : decode cX10_wed 9 = .ok (.iload_n 2, 1) := by decide +kernel
theorem dX10_wed_10 : decode cX10_wed 10 = .ok (.iconst 0, 1) := by decide +kernel
theorem dX10_wed_11 : decode cX10_wed 11 = .ok (.iconst 3, 1) := by decide +kernel
theorem dX10_wed_12 : decode cX10_wed 12 = .ok (.invokestatic 62, 3) := by decide +kernel
theorem dX10_wed_15 : decode cX10_wed 15 = .ok (.ifCond .ne 5, 3) := by decide +kernel
theorem dX10_wed_18 : decode cX10_wed 18 = .ok (.iconst (-1), 1) := by decide +kernel
theorem dX10_wed_19 : decode cX10_wed 19 = .ok (.ireturn, 1) := by decide +kernel
theorem dX10_wed_20 : decode cX10_wed 20 = .ok (.iload_n 3, 1) := by decide +kernel
theorem dX10_wed_21 : decode cX10_wed 21 = .ok (.iconst 0, 1) := by decide +kernel
theorem dX10_wed_22 : decode cX10_wed 22 = .ok (.iconst 1, 1) := by decide +kernel
theorem dX10_wed_23 : decode cX10_wed 23 = .ok (.invokestatic 62, 3) := by decide +kernel
theorem dX10_wed_26 : decode cX10_wed 26 = .ok (.ifCond .ne 6, 3) := by decide +kernel
theorem dX10_wed_29 : decode cX10_wed 29 = .ok (.bipush (-2), 2) := by decide +kernel
theorem dX10_wed_31 : decode cX10_wed 31 = .ok (.ireturn, 1) := by decide +kernel
theorem dX10_wed_32 : decode cX10_wed 32 = .ok (.aload_n 0, 1) := by decide +kernel
theorem dX10_wed_33 : decode cX10_wed 33 = .ok (.iload_n 3, 1) := by decide +kernel
theorem dX10_wed_34 : decode cX10_wed 34 = .ok (.invokevirtual 154, 3) := by decide +kernel
theorem dX10_wed_37 : decode cX10_wed 37 = .ok (.pop, 1) := by decide +kernel
theorem dX10_wed_38 : decode cX10_wed 38 = .ok (.bipush (-6), 2) := by decide +kernel
theorem dX10_wed_40 : decode cX10_wed 40 = .ok (.istore 4, 2) := by decide +kernel
theorem dX10_wed_42 : decode cX10_wed 42 = .ok (.iconst 0, 1) := by decide +kernel
theorem dX10_wed_43 : decode cX10_wed 43 = .ok (.istore 5, 2) := by decide +kernel
theorem dX10_wed_45 : decode cX10_wed 45 = .ok (.iload 5, 2) := by decide +kernel
theorem dX10_wed_47 : decode cX10_wed 47 = .ok (.iconst 4, 1) := by decide +kernel
theorem dX10_wed_48 : decode cX10_wed 48 = .ok (.if_icmp .ge 42, 3) := by decide +kernel
theorem dX10_wed_51 : decode cX10_wed 51 = .ok (.iload_n 1, 1) := by decide +kernel
theorem dX10_wed_52 : decode cX10_wed 52 = .ok (.ifCond .ne 12, 3) := by decide +kernel
theorem dX10_wed_55 : decode cX10_wed 55 = .ok (.aload_n 0, 1) := by decide +kernel
theorem dX10_wed_56 : decode cX10_wed 56 = .ok (.getfield 43, 3) := by decide +kernel
theorem dX10_wed_59 : decode cX10_wed 59 = .ok (.iload_n 2, 1) := by decide +kernel
theorem dX10_wed_60 : decode cX10_wed 60 = .ok (.iaload, 1) := by decide +kernel
theorem dX10_wed_61 : decode cX10_wed 61 = .ok (.goto 21, 3) := by decide +kernel
theorem dX10_wed_64 : decode cX10_wed 64 = .ok (.aload_n 0, 1) := by decide +kernel
theorem dX10_wed_65 : decode cX10_wed 65 = .ok (.getfield 43, 3) := by decide +kernel
theorem dX10_wed_68 : decode cX10_wed 68 = .ok (.iload 5, 2) := by decide +kernel
theorem dX10_wed_70 : decode cX10_wed 70 = .ok (.iaload, 1) := by decide +kernel
theorem dX10_wed_71 : decode cX10_wed 71 = .ok (.iload_n 2, 1) := by decide +kernel
theorem dX10_wed_72 : decode cX10_wed 72 = .ok (.if_icmp .ne 8, 3) := by decide +kernel
theorem dX10_wed_75 : decode cX10_wed 75 = .ok (.iload 5, 2) := by decide +kernel
theorem dX10_wed_77 : decode cX10_wed 77 = .ok (.goto 5, 3) := by decide +kernel
theorem dX10_wed_80 : decode cX10_wed 80 = .ok (.iload 4, 2) := by decide +kernel
theorem dX10_wed_82 : decode cX10_wed 82 = .ok (.istore 4, 2) := by decide +kernel
theorem dX10_wed_84 : decode cX10_wed 84 = .ok (.iinc 5 1, 3) := by decide +kernel
theorem dX10_wed_87 : decode cX10_wed 87 = .ok (.goto (-42), 3) := by decide +kernel
theorem dX10_wed_90 : decode cX10_wed 90 = .ok (.iload 4, 2) := by decide +kernel
theorem dX10_wed_92 : decode cX10_wed 92 = .ok (.ireturn, 1) := by decide +kernel
theorem dX10_seen_0 : decode cX10_seen 0 = .ok (.iload_n 1, 1) := by decide +kernel
theorem dX10_seen_1 : decode cX10_seen 1 = .ok (.iconst 0, 1) := by decide +kernel
theorem dX10_seen_2 : decode cX10_seen 2 = .ok (.iconst 5, 1) := by decide +kernel
theorem dX10_seen_3 : decode cX10_seen 3 = .ok (.invokestatic 62, 3) := by decide +kernel
theorem dX10_seen_6 : decode cX10_seen 6 = .ok (.ifCond .eq 13, 3) := by decide +kernel
theorem dX10_seen_9 : decode cX10_seen 9 = .ok (.iload_n 2, 1) := by decide +kernel
theorem dX10_seen_10 : decode cX10_seen 10 = .ok (.iconst 0, 1) := by decide +kernel
theorem dX10_seen_11 : decode cX10_seen 11 = .ok (.bipush 99, 2) := by decide +kernel
theorem dX10_seen_13 : decode cX10_seen 13 = .ok (.invokestatic 62, 3) := by decide +kernel
theorem dX10_seen_16 : decode cX10_seen 16 = .ok (.ifCond .ne 6, 3) := by decide +kernel
theorem dX10_seen_19 : decode cX10_seen 19 = .ok (.bipush (-2), 2) := by decide +kernel
theorem dX10_seen_21 : decode cX10_seen 21 = .ok (.ireturn, 1) := by decide +kernel
theorem dX10_seen_22 : decode cX10_seen 22 = .ok (.aload_n 0, 1) := by decide +kernel
theorem dX10_seen_23 : decode cX10_seen 23 = .ok (.getfield 157, 3) := by decide +kernel
theorem dX10_seen_26 : decode cX10_seen 26 = .ok (.bipush 8, 2) := by decide +kernel
theorem dX10_seen_28 : decode cX10_seen 28 = .ok (.if_icmp .ne 6, 3) := by decide +kernel
theorem dX10_seen_31 : decode cX10_seen 31 = .ok (.bipush (-4), 2) := by decide +kernel
theorem dX10_seen_33 : decode cX10_seen 33 = .ok (.ireturn, 1) := by decide +kernel
theorem dX10_seen_34 : decode cX10_seen 34 = .ok (.aload_n 0, 1) := by decide +kernel
theorem dX10_seen_35 : decode cX10_seen 35 = .ok (.getfield 22, 3) := by decide +kernel
theorem dX10_seen_38 : decode cX10_seen 38 = .ok (.iconst 3, 1) := by decide +kernel
theorem dX10_seen_39 : decode cX10_seen 39 = .ok (.aload_n 0, 1) := by decide +kernel
theorem dX10_seen_40 : decode cX10_seen 40 = .ok (.getfield 157, 3) := by decide +kernel
theorem dX10_seen_43 : decode cX10_seen 43 = .ok (.imul, 1) := by decide +kernel
theorem dX10_seen_44 : decode cX10_seen 44 = .ok (.iload_n 1, 1) := by decide +kernel
theorem dX10_seen_45 : decode cX10_seen 45 = .ok (.iastore, 1) := by decide +kernel
theorem dX10_seen_46 : decode cX10_seen 46 = .ok (.aload_n 0, 1) := by decide +kernel
theorem dX10_seen_47 : decode cX10_seen 47 = .ok (.getfield 22, 3) := by decide +kernel
theorem dX10_seen_50 : decode cX10_seen 50 = .ok (.iconst 3, 1) := by decide +kernel
theorem dX10_seen_51 : decode cX10_seen 51 = .ok (.aload_n 0, 1) := by decide +kernel
theorem dX10_seen_52 : decode cX10_seen 52 = .ok (.getfield 157, 3) := by decide +kernel
theorem dX10_seen_55 : decode cX10_seen 55 = .ok (.imul, 1) := by decide +kernel
theorem dX10_seen_56 : decode cX10_seen 56 = .ok (.iconst 1, 1) := by decide +kernel
theorem dX10_seen_57 : decode cX10_seen 57 = .ok (.iadd, 1) := by decide +kernel
theorem dX10_seen_58 : decode cX10_seen 58 = .ok (.iload_n 2, 1) := by decide +kernel
theorem dX10_seen_59 : decode cX10_seen 59 = .ok (.iastore, 1) := by decide +kernel
theorem dX10_seen_60 : decode cX10_seen 60 = .ok (.aload_n 0, 1) := by decide +kernel
theorem dX10_seen_61 : decode cX10_seen 61 = .ok (.getfield 22, 3) := by decide +kernel
theorem dX10_seen_64 : decode cX10_seen 64 = .ok (.iconst 3, 1) := by decide +kernel
theorem dX10_seen_65 : decode cX10_seen 65 = .ok (.aload_n 0, 1) := by decide +kernel
theorem dX10_seen_66 : decode cX10_seen 66 = .ok (.getfield 157, 3) := by decide +kernel
theorem dX10_seen_69 : decode cX10_seen 69 = .ok (.imul, 1) := by decide +kernel
theorem dX10_seen_70 : decode cX10_seen 70 = .ok (.iconst 2, 1) := by decide +kernel
theorem dX10_seen_71 : decode cX10_seen 71 = .ok (.iadd, 1) := by decide +kernel
theorem dX10_seen_72 : decode cX10_seen 72 = .ok (.iload_n 3, 1) := by decide +kernel
theorem dX10_seen_73 : decode cX10_seen 73 = .ok (.ifCond .eq 7, 3) := by decide +kernel
theorem dX10_seen_76 : decode cX10_seen 76 = .ok (.iconst 1, 1) := by decide +kernel
theorem dX10_seen_77 : decode cX10_seen 77 = .ok (.goto 4, 3) := by decide +kernel
theorem dX10_seen_80 : decode cX10_seen 80 = .ok (.iconst 0, 1) := by decide +kernel
theorem dX10_seen_81 : decode cX10_seen 81 = .ok (.iastore, 1) := by decide +kernel
theorem dX10_seen_82 : decode cX10_seen 82 = .ok (.aload_n 0, 1) := by decide +kernel
theorem dX10_seen_83 : decode cX10_seen 83 = .ok (.dup, 1) := by decide +kernel
theorem dX10_seen_84 : decode cX10_seen 84 = .ok (.getfield 157, 3) := by decide +kernel
theorem dX10_seen_87 : decode cX10_seen 87 = .ok (.iconst 1, 1) := by decide +kernel
theorem dX10_seen_88 : decode cX10_seen 88 = .ok (.iadd, 1) := by decide +kernel
theorem dX10_seen_89 : decode cX10_seen 89 = .ok (.putfield 157, 3) := by decide +kernel
theorem dX10_seen_92 : decode cX10_seen 92 = .ok (.aload_n 0, 1) := by decide +kernel
theorem dX10_seen_93 : decode cX10_seen 93 = .ok (.getfield 157, 3) := by decide +kernel
theorem dX10_seen_96 : decode cX10_seen 96 = .ok (.ireturn, 1) := by decide +kernel
theorem dX10_forget_0 : decode cX10_forget 0 = .ok (.aload_n 0, 1) := by decide +kernel
theorem dX10_forget_1 : decode cX10_forget 1 = .ok (.getfield 157, 3) := by decide +kernel
theorem dX10_forget_4 : decode cX10_forget 4 = .ok (.istore_n 1, 1) := by decide +kernel
theorem dX10_forget_5 : decode cX10_forget 5 = .ok (.aload_n 0, 1) := by decide +kernel
theorem dX10_forget_6 : decode cX10_forget 6 = .ok (.iconst 0, 1) := by decide +kernel
theorem dX10_forget_7 : decode cX10_forget 7 = .ok (.putfield 157, 3) := by decide +kernel
theorem dX10_forget_10 : decode cX10_forget 10 = .ok (.iload_n 1, 1) := by decide +kernel
theorem dX10_forget_11 : decode cX10_forget 11 = .ok (.ireturn, 1) := by decide +kernel
theorem dX10_isDown_0 : decode cX10_isDown 0 = .ok (.iload_n 2, 1) := by decide +kernel
theorem dX10_isDown_1 : decode cX10_isDown 1 = .ok (.iload_n 0, 1) := by decide +kernel
theorem dX10_isDown_2 : decode cX10_isDown 2 = .ok (.bipush 10, 2) := by decide +kernel
theorem dX10_isDown_4 : decode cX10_isDown 4 = .ok (.idiv, 1) := by decide +kernel
theorem dX10_isDown_5 : decode cX10_isDown 5 = .ok (.iload_n 0, 1) := by decide +kernel
theorem dX10_isDown_6 : decode cX10_isDown 6 = .ok (.bipush 10, 2) := by decide +kernel
theorem dX10_isDown_8 : decode cX10_isDown 8 = .ok (.idiv, 1) := by decide +kernel
theorem dX10_isDown_9 : decode cX10_isDown 9 = .ok (.iload_n 1, 1) := by decide +kernel
theorem dX10_isDown_10 : decode cX10_isDown 10 = .ok (.iload_n 0, 1) := by decide +kernel
theorem dX10_isDown_11 : decode cX10_isDown 11 = .ok (.bipush 10, 2) := by decide +kernel
theorem dX10_isDown_13 : decode cX10_isDown 13 = .ok (.irem, 1) := by decide +kernel
theorem dX10_isDown_14 : decode cX10_isDown 14 = .ok (.imul, 1) := by decide +kernel
theorem dX10_isDown_15 : decode cX10_isDown 15 = .ok (.iadd, 1) := by decide +kernel
theorem dX10_isDown_16 : decode cX10_isDown 16 = .ok (.invokestatic 62, 3) := by decide +kernel
theorem dX10_isDown_19 : decode cX10_isDown 19 = .ok (.ireturn, 1) := by decide +kernel
theorem dX10_isFit_0 : decode cX10_isFit 0 = .ok (.iconst 1, 1) := by decide +kernel
theorem dX10_isFit_1 : decode cX10_isFit 1 = .ok (.istore_n 2, 1) := by decide +kernel
theorem dX10_isFit_2 : decode cX10_isFit 2 = .ok (.iconst 0, 1) := by decide +kernel
theorem dX10_isFit_3 : decode cX10_isFit 3 = .ok (.istore_n 3, 1) := by decide +kernel
theorem dX10_isFit_4 : decode cX10_isFit 4 = .ok (.iload_n 3, 1) := by decide +kernel
theorem dX10_isFit_5 : decode cX10_isFit 5 = .ok (.aload_n 0, 1) := by decide +kernel
theorem dX10_isFit_6 : decode cX10_isFit 6 = .ok (.getfield 157, 3) := by decide +kernel
theorem dX10_isFit_9 : decode cX10_isFit 9 = .ok (.if_icmp .ge 63, 3) := by decide +kernel
theorem dX10_isFit_12 : decode cX10_isFit 12 = .ok (.iload_n 2, 1) := by decide +kernel
theorem dX10_isFit_13 : decode cX10_isFit 13 = .ok (.ifCond .eq 59, 3) := by decide +kernel
theorem dX10_isFit_16 : decode cX10_isFit 16 = .ok (.iload_n 1, 1) := by decide +kernel
theorem dX10_isFit_17 : decode cX10_isFit 17 = .ok (.aload_n 0, 1) := by decide +kernel
theorem dX10_isFit_18 : decode cX10_isFit 18 = .ok (.getfield 22, 3) := by decide +kernel
theorem dX10_isFit_21 : decode cX10_isFit 21 = .ok (.iconst 3, 1) := by decide +kernel
theorem dX10_isFit_22 : decode cX10_isFit 22 = .ok (.iload_n 3, 1) := by decide +kernel
theorem dX10_isFit_23 : decode cX10_isFit 23 = .ok (.imul, 1) := by decide +kernel
theorem dX10_isFit_24 : decode cX10_isFit 24 = .ok (.iaload, 1) := by decide +kernel
theorem dX10_isFit_25 : decode cX10_isFit 25 = .ok (.aload_n 0, 1) := by decide +kernel
theorem dX10_isFit_26 : decode cX10_isFit 26 = .ok (.getfield 22, 3) := by decide +kernel
theorem dX10_isFit_29 : decode cX10_isFit 29 = .ok (.iconst 3, 1) := by decide +kernel
theorem dX10_isFit_30 : decode cX10_isFit 30 = .ok (.iload_n 3, 1) := by decide +kernel
theorem dX10_isFit_31 : decode cX10_isFit 31 = .ok (.imul, 1) := by decide +kernel
theorem dX10_isFit_32 : decode cX10_isFit 32 = .ok (.iconst 1, 1) := by decide +kernel
theorem dX10_isFit_33 : decode cX10_isFit 33 = .ok (.iadd, 1) := by decide +kernel
theorem dX10_isFit_34 : decode cX10_isFit 34 = .ok (.iaload, 1) := by decide +kernel
theorem dX10_isFit_35 : decode cX10_isFit 35 = .ok (.invokestatic 160, 3) := by decide +kernel
theorem dX10_isFit_38 : decode cX10_isFit 38 = .ok (.aload_n 0, 1) := by decide +kernel
theorem dX10_isFit_39 : decode cX10_isFit 39 = .ok (.getfield 22, 3) := by decide +kernel
theorem dX10_isFit_42 : decode cX10_isFit 42 = .ok (.iconst 3, 1) := by decide +kernel
theorem dX10_isFit_43 : decode cX10_isFit 43 = .ok (.iload_n 3, 1) := by decide +kernel
theorem dX10_isFit_44 : decode cX10_isFit 44 = .ok (.imul, 1) := by decide +kernel
theorem dX10_isFit_45 : decode cX10_isFit 45 = .ok (.iconst 2, 1) := by decide +kernel
theorem dX10_isFit_46 : decode cX10_isFit 46 = .ok (.iadd, 1) := by decide +kernel
theorem dX10_isFit_47 : decode cX10_isFit 47 = .ok (.iaload, 1) := by decide +kernel
theorem dX10_isFit_48 : decode cX10_isFit 48 = .ok (.iconst 1, 1) := by decide +kernel
theorem dX10_isFit_49 : decode cX10_isFit 49 = .ok (.if_icmp .ne 7, 3) := by decide +kernel
theorem dX10_isFit_52 : decode cX10_isFit 52 = .ok (.iconst 1, 1) := by decide +kernel
theorem dX10_isFit_53 : decode cX10_isFit 53 = .ok (.goto 4, 3) := by decide +kernel
theorem dX10_isFit_56 : decode cX10_isFit 56 = .ok (.iconst 0, 1) := by decide +kernel
theorem dX10_isFit_57 : decode cX10_isFit 57 = .ok (.if_icmp .ne 7, 3) := by decide +kernel
theorem dX10_isFit_60 : decode cX10_isFit 60 = .ok (.iconst 1, 1) := by decide +kernel
theorem dX10_isFit_61 : decode cX10_isFit 61 = .ok (.goto 4, 3) := by decide +kernel
theorem dX10_isFit_64 : decode cX10_isFit 64 = .ok (.iconst 0, 1) := by decide +kernel
theorem dX10_isFit_65 : decode cX10_isFit 65 = .ok (.istore_n 2, 1) := by decide +kernel
theorem dX10_isFit_66 : decode cX10_isFit 66 = .ok (.iinc 3 1, 3) := by decide +kernel
theorem dX10_isFit_69 : decode cX10_isFit 69 = .ok (.goto (-65), 3) := by decide +kernel
theorem dX10_isFit_72 : decode cX10_isFit 72 = .ok (.iload_n 2, 1) := by decide +kernel
theorem dX10_isFit_73 : decode cX10_isFit 73 = .ok (.ireturn, 1) := by decide +kernel
theorem dX10_posts_0 : decode cX10_posts 0 = .ok (.iconst 0, 1) := by decide +kernel
theorem dX10_posts_1 : decode cX10_posts 1 = .ok (.istore_n 2, 1) := by decide +kernel
theorem dX10_posts_2 : decode cX10_posts 2 = .ok (.iconst 0, 1) := by decide +kernel
theorem dX10_posts_3 : decode cX10_posts 3 = .ok (.istore_n 3, 1) := by decide +kernel
theorem dX10_posts_4 : decode cX10_posts 4 = .ok (.iload_n 3, 1) := by decide +kernel
theorem dX10_posts_5 : decode cX10_posts 5 = .ok (.sipush 410, 3) := by decide +kernel
theorem dX10_posts_8 : decode cX10_posts 8 = .ok (.if_icmp .ge 27, 3) := by decide +kernel
theorem dX10_posts_11 : decode cX10_posts 11 = .ok (.aload_n 0, 1) := by decide +kernel
theorem dX10_posts_12 : decode cX10_posts 12 = .ok (.iload_n 3, 1) := by decide +kernel
theorem dX10_posts_13 : decode cX10_posts 13 = .ok (.invokevirtual 163, 3) := by decide +kernel
theorem dX10_posts_16 : decode cX10_posts 16 = .ok (.ifCond .eq 13, 3) := by decide +kernel
theorem dX10_posts_19 : decode cX10_posts 19 = .ok (.iload_n 2, 1) := by decide +kernel
theorem dX10_posts_20 : decode cX10_posts 20 = .ok (.iload_n 1, 1) := by decide +kernel
theorem dX10_posts_21 : decode cX10_posts 21 = .ok (.if_icmp .ne 5, 3) := by decide +kernel
theorem dX10_posts_24 : decode cX10_posts 24 = .ok (.iload_n 3, 1) := by decide +kernel
theorem dX10_posts_25 : decode cX10_posts 25 = .ok (.ireturn, 1) := by decide +kernel
theorem dX10_posts_26 : decode cX10_posts 26 = .ok (.iinc 2 1, 3) := by decide +kernel
theorem dX10_posts_29 : decode cX10_posts 29 = .ok (.iinc 3 1, 3) := by decide +kernel
theorem dX10_posts_32 : decode cX10_posts 32 = .ok (.goto (-28), 3) := by decide +kernel
theorem dX10_posts_35 : decode cX10_posts 35 = .ok (.iload_n 1, 1) := by decide +kernel
theorem dX10_posts_36 : decode cX10_posts 36 = .ok (.iconst (-1), 1) := by decide +kernel
theorem dX10_posts_37 : decode cX10_posts 37 = .ok (.if_icmp .ne 7, 3) := by decide +kernel
theorem dX10_posts_40 : decode cX10_posts 40 = .ok (.iload_n 2, 1) := by decide +kernel
theorem dX10_posts_41 : decode cX10_posts 41 = .ok (.goto 5, 3) := by decide +kernel
theorem dX10_posts_44 : decode cX10_posts 44 = .ok (.bipush (-6), 2) := by decide +kernel
theorem dX10_posts_46 : decode cX10_posts 46 = .ok (.ireturn, 1) := by decide +kernel
theorem dX10_ask_0 : decode cX10_ask 0 = .ok (.iload_n 1, 1) := by decide +kernel
theorem dX10_ask_1 : decode cX10_ask 1 = .ok (.iconst 0, 1) := by decide +kernel
theorem dX10_ask_2 : decode cX10_ask 2 = .ok (.iconst 1, 1) := by decide +kernel
theorem dX10_ask_3 : decode cX10_ask 3 = .ok (.invokestatic 62, 3) := by decide +kernel
theorem dX10_ask_6 : decode cX10_ask 6 = .ok (.ifCond .ne 6, 3) := by decide +kernel
theorem dX10_ask_9 : decode cX10_ask 9 = .ok (.bipush (-2), 2) := by decide +kernel
theorem dX10_ask_11 : decode cX10_ask 11 = .ok (.ireturn, 1) := by decide +kernel
theorem dX10_ask_12 : decode cX10_ask 12 = .ok (.iconst 0, 1) := by decide +kernel
theorem dX10_ask_13 : decode cX10_ask 13 = .ok (.istore_n 2, 1) := by decide +kernel
theorem dX10_ask_14 : decode cX10_ask 14 = .ok (.iconst 0, 1) := by decide +kernel
theorem dX10_ask_15 : decode cX10_ask 15 = .ok (.istore_n 3, 1) := by decide +kernel
theorem dX10_ask_16 : decode cX10_ask 16 = .ok (.iload_n 3, 1) := by decide +kernel
theorem dX10_ask_17 : decode cX10_ask 17 = .ok (.sipush 410, 3) := by decide +kernel
theorem dX10_ask_20 : decode cX10_ask 20 = .ok (.if_icmp .ge 27, 3) := by decide +kernel
theorem dX10_ask_23 : decode cX10_ask 23 = .ok (.aload_n 0, 1) := by decide +kernel
theorem dX10_ask_24 : decode cX10_ask 24 = .ok (.iload_n 3, 1) := by decide +kernel
theorem dX10_ask_25 : decode cX10_ask 25 = .ok (.invokevirtual 163, 3) := by decide +kernel
theorem dX10_ask_28 : decode cX10_ask 28 = .ok (.ifCond .eq 13, 3) := by decide +kernel
theorem dX10_ask_31 : decode cX10_ask 31 = .ok (.aload_n 0, 1) := by decide +kernel
theorem dX10_ask_32 : decode cX10_ask 32 = .ok (.getfield 46, 3) := by decide +kernel
theorem dX10_ask_35 : decode cX10_ask 35 = .ok (.iload_n 2, 1) := by decide +kernel
theorem dX10_ask_36 : decode cX10_ask 36 = .ok (.iload_n 3, 1) := by decide +kernel
theorem dX10_ask_37 : decode cX10_ask 37 = .ok (.iastore, 1) := by decide +kernel
theorem dX10_ask_38 : decode cX10_ask 38 = .ok (.iinc 2 1, 3) := by decide +kernel
theorem dX10_ask_41 : decode cX10_ask 41 = .ok (.iinc 3 1, 3) := by decide +kernel
theorem dX10_ask_44 : decode cX10_ask 44 = .ok (.goto (-28), 3) := by decide +kernel
theorem dX10_ask_47 : decode cX10_ask 47 = .ok (.bipush (-6), 2) := by decide +kernel
theorem dX10_ask_49 : decode cX10_ask 49 = .ok (.istore_n 3, 1) := by decide +kernel
theorem dX10_ask_50 : decode cX10_ask 50 = .ok (.ldc 138, 2) := by decide +kernel
theorem dX10_ask_52 : decode cX10_ask 52 = .ok (.istore 4, 2) := by decide +kernel
theorem dX10_ask_54 : decode cX10_ask 54 = .ok (.iconst 0, 1) := by decide +kernel
theorem dX10_ask_55 : decode cX10_ask 55 = .ok (.istore 5, 2) := by decide +kernel
theorem dX10_ask_57 : decode cX10_ask 57 = .ok (.iload 5, 2) := by decide +kernel
theorem dX10_ask_59 : decode cX10_ask 59 = .ok (.sipush 600, 3) := by decide +kernel
theorem dX10_ask_62 : decode cX10_ask 62 = .ok (.if_icmp .ge 114, 3) := by decide +kernel
theorem dX10_ask_65 : decode cX10_ask 65 = .ok (.iload_n 2, 1) := by decide +kernel
theorem dX10_ask_66 : decode cX10_ask 66 = .ok (.ifCond .le 110, 3) := by decide +kernel
theorem dX10_ask_69 : decode cX10_ask 69 = .ok (.iconst 0, 1) := by decide +kernel
theorem dX10_ask_70 : decode cX10_ask 70 = .ok (.istore 6, 2) := by decide +kernel
theorem dX10_ask_72 : decode cX10_ask 72 = .ok (.iconst 0, 1) := by decide +kernel
theorem dX10_ask_73 : decode cX10_ask 73 = .ok (.istore 7, 2) := by decide +kernel
theorem dX10_ask_75 : decode cX10_ask 75 = .ok (.iload 7, 2) := by decide +kernel
theorem dX10_ask_77 : decode cX10_ask 77 = .ok (.iload_n 2, 1) := by decide +kernel
theorem dX10_ask_78 : decode cX10_ask 78 = .ok (.if_icmp .ge 42, 3) := by decide +kernel
theorem dX10_ask_81 : decode cX10_ask 81 = .ok (.iload 6, 2) := by decide +kernel
theorem dX10_ask_83 : decode cX10_ask 83 = .ok (.aload_n 0, 1) := by decide +kernel
theorem dX10_ask_84 : decode cX10_ask 84 = .ok (.getfield 46, 3) := by decide +kernel
theorem dX10_ask_87 : decode cX10_ask 87 = .ok (.iload 7, 2) := by decide +kernel
theorem dX10_ask_89 : decode cX10_ask 89 = .ok (.iaload, 1) := by decide +kernel
theorem dX10_ask_90 : decode cX10_ask 90 = .ok (.iload 5, 2) := by decide +kernel
theorem dX10_ask_92 : decode cX10_ask 92 = .ok (.bipush 100, 2) := by decide +kernel
theorem dX10_ask_94 : decode cX10_ask 94 = .ok (.idiv, 1) := by decide +kernel
theorem dX10_ask_95 : decode cX10_ask 95 = .ok (.iload 5, 2) := by decide +kernel
theorem dX10_ask_97 : decode cX10_ask 97 = .ok (.bipush 100, 2) := by decide +kernel
theorem dX10_ask_99 : decode cX10_ask 99 = .ok (.irem, 1) := by decide +kernel
theorem dX10_ask_100 : decode cX10_ask 100 = .ok (.invokestatic 160, 3) := by decide +kernel
theorem dX10_ask_103 : decode cX10_ask 103 = .ok (.ifCond .eq 7, 3) := by decide +kernel
theorem dX10_ask_106 : decode cX10_ask 106 = .ok (.iconst 1, 1) := by decide +kernel
theorem dX10_ask_107 : decode cX10_ask 107 = .ok (.goto 4, 3) := by decide +kernel
theorem dX10_ask_110 : decode cX10_ask 110 = .ok (.iconst 0, 1) := by decide +kernel
theorem dX10_ask_111 : decode cX10_ask 111 = .ok (.iadd, 1) := by decide +kernel
theorem dX10_ask_112 : decode cX10_ask 112 = .ok (.istore 6, 2) := by decide +kernel
theorem dX10_ask_114 : decode cX10_ask 114 = .ok (.iinc 7 1, 3) := by decide +kernel
theorem dX10_ask_117 : decode cX10_ask 117 = .ok (.goto (-42), 3) := by decide +kernel
theorem dX10_ask_120 : decode cX10_ask 120 = .ok (.iload 6, 2) := by decide +kernel
theorem dX10_ask_122 : decode cX10_ask 122 = .ok (.iload_n 2, 1) := by decide +kernel
theorem dX10_ask_123 : decode cX10_ask 123 = .ok (.iload 6, 2) := by decide +kernel
theorem dX10_ask_125 : decode cX10_ask 125 = .ok (.isub, 1) := by decide +kernel
theorem dX10_ask_126 : decode cX10_ask 126 = .ok (.if_icmp .le 8, 3) := by decide +kernel
theorem dX10_ask_129 : decode cX10_ask 129 = .ok (.iload 6, 2) := by decide +kernel
theorem dX10_ask_131 : decode cX10_ask 131 = .ok (.goto 7, 3) := by decide +kernel
theorem dX10_ask_134 : decode cX10_ask 134 = .ok (.iload_n 2, 1) := by decide +kernel
theorem dX10_ask_135 : decode cX10_ask 135 = .ok (.iload 6, 2) := by decide +kernel
theorem dX10_ask_137 : decode cX10_ask 137 = .ok (.isub, 1) := by decide +kernel
theorem dX10_ask_138 : decode cX10_ask 138 = .ok (.istore 7, 2) := by decide +kernel
theorem dX10_ask_140 : decode cX10_ask 140 = .ok (.iload 7, 2) := by decide +kernel
theorem dX10_ask_142 : decode cX10_ask 142 = .ok (.iload 4, 2) := by decide +kernel
theorem dX10_ask_144 : decode cX10_ask 144 = .ok (.if_icmp .ge 8, 3) := by decide +kernel
theorem dX10_ask_147 : decode cX10_ask 147 = .ok (.iload 5, 2) := by decide +kernel
theorem dX10_ask_149 : decode cX10_ask 149 = .ok (.goto 4, 3) := by decide +kernel
theorem dX10_ask_152 : decode cX10_ask 152 = .ok (.iload_n 3, 1) := by decide +kernel
theorem dX10_ask_153 : decode cX10_ask 153 = .ok (.istore_n 3, 1) := by decide +kernel
theorem dX10_ask_154 : decode cX10_ask 154 = .ok (.iload 7, 2) := by decide +kernel
theorem dX10_ask_156 : decode cX10_ask 156 = .ok (.iload 4, 2) := by decide +kernel
theorem dX10_ask_158 : decode cX10_ask 158 = .ok (.if_icmp .ge 8, 3) := by decide +kernel
theorem dX10_ask_161 : decode cX10_ask 161 = .ok (.iload 7, 2) := by decide +kernel
theorem dX10_ask_163 : decode cX10_ask 163 = .ok (.goto 5, 3) := by decide +kernel
theorem dX10_ask_166 : decode cX10_ask 166 = .ok (.iload 4, 2) := by decide +kernel
theorem dX10_ask_168 : decode cX10_ask 168 = .ok (.istore 4, 2) := by decide +kernel
theorem dX10_ask_170 : decode cX10_ask 170 = .ok (.iinc 5 1, 3) := by decide +kernel
theorem dX10_ask_173 : decode cX10_ask 173 = .ok (.goto (-116), 3) := by decide +kernel
theorem dX10_ask_176 : decode cX10_ask 176 = .ok (.iload_n 3, 1) := by decide +kernel
theorem dX10_ask_177 : decode cX10_ask 177 = .ok (.ifCond .lt 7, 3) := by decide +kernel
theorem dX10_ask_180 : decode cX10_ask 180 = .ok (.iload_n 1, 1) := by decide +kernel
theorem dX10_ask_181 : decode cX10_ask 181 = .ok (.ifCond .ne 7, 3) := by decide +kernel
theorem dX10_ask_184 : decode cX10_ask 184 = .ok (.iload_n 3, 1) := by decide +kernel
theorem dX10_ask_185 : decode cX10_ask 185 = .ok (.goto 5, 3) := by decide +kernel
theorem dX10_ask_188 : decode cX10_ask 188 = .ok (.iload 4, 2) := by decide +kernel
theorem dX10_ask_190 : decode cX10_ask 190 = .ok (.ireturn, 1) := by decide +kernel
theorem dX10_layWorth_0 : decode cX10_layWorth 0 = .ok (.iconst 0, 1) := by decide +kernel
theorem dX10_layWorth_1 : decode cX10_layWorth 1 = .ok (.istore_n 2, 1) := by decide +kernel
theorem dX10_layWorth_2 : decode cX10_layWorth 2 = .ok (.iload_n 2, 1) := by decide +kernel
theorem dX10_layWorth_3 : decode cX10_layWorth 3 = .ok (.iload_n 1, 1) := by decide +kernel
theorem dX10_layWorth_4 : decode cX10_layWorth 4 = .ok (.if_icmp .gt 90, 3) := by decide +kernel
theorem dX10_layWorth_7 : decode cX10_layWorth 7 = .ok (.iconst 0, 1) := by decide +kernel
theorem dX10_layWorth_8 : decode cX10_layWorth 8 = .ok (.istore_n 3, 1) := by decide +kernel
theorem dX10_layWorth_9 : decode cX10_layWorth 9 = .ok (.iload_n 3, 1) := by decide +kernel
theorem dX10_layWorth_10 : decode cX10_layWorth 10 = .ok (.bipush 64, 2) := by decide +kernel
theorem dX10_layWorth_12 : decode cX10_layWorth 12 = .ok (.if_icmp .ge 16, 3) := by decide +kernel
theorem dX10_layWorth_15 : decode cX10_layWorth 15 = .ok (.aload_n 0, 1) := by decide +kernel
theorem dX10_layWorth_16 : decode cX10_layWorth 16 = .ok (.getfield 52, 3) := by decide +kernel
theorem dX10_layWorth_19 : decode cX10_layWorth 19 = .ok (.iload_n 3, 1) := by decide +kernel
theorem dX10_layWorth_20 : decode cX10_layWorth 20 = .ok (.iconst 0, 1) := by decide +kernel
theorem dX10_layWorth_21 : decode cX10_layWorth 21 = .ok (.bastore, 1) := by decide +kernel
theorem dX10_layWorth_22 : decode cX10_layWorth 22 = .ok (.iinc 3 1, 3) := by decide +kernel
theorem dX10_layWorth_25 : decode cX10_layWorth 25 = .ok (.goto (-16), 3) := by decide +kernel
theorem dX10_layWorth_28 : decode cX10_layWorth 28 = .ok (.iconst 1, 1) := by decide +kernel
theorem dX10_layWorth_29 : decode cX10_layWorth 29 = .ok (.istore_n 3, 1) := by decide +kernel
theorem dX10_layWorth_30 : decode cX10_layWorth 30 = .ok (.iconst 2, 1) := by decide +kernel
theorem dX10_layWorth_31 : decode cX10_layWorth 31 = .ok (.iload_n 3, 1) := by decide +kernel
theorem dX10_layWorth_32 : decode cX10_layWorth 32 = .ok (.imul, 1) := by decide +kernel
theorem dX10_layWorth_33 : decode cX10_layWorth 33 = .ok (.iload_n 2, 1) := by decide +kernel
theorem dX10_layWorth_34 : decode cX10_layWorth 34 = .ok (.if_icmp .ge 30, 3) := by decide +kernel
theorem dX10_layWorth_37 : decode cX10_layWorth 37 = .ok (.aload_n 0, 1) := by decide +kernel
theorem dX10_layWorth_38 : decode cX10_layWorth 38 = .ok (.getfield 52, 3) := by decide +kernel
theorem dX10_layWorth_41 : decode cX10_layWorth 41 = .ok (.aload_n 0, 1) := by decide +kernel
theorem dX10_layWorth_42 : decode cX10_layWorth 42 = .ok (.getfield 49, 3) := by decide +kernel
theorem dX10_layWorth_45 : decode cX10_layWorth 45 = .ok (.iload_n 3, 1) := by decide +kernel
theorem dX10_layWorth_46 : decode cX10_layWorth 46 = .ok (.iaload, 1) := by decide +kernel
theorem dX10_layWorth_47 : decode cX10_layWorth 47 = .ok (.aload_n 0, 1) := by decide +kernel
theorem dX10_layWorth_48 : decode cX10_layWorth 48 = .ok (.getfield 49, 3) := by decide +kernel
theorem dX10_layWorth_51 : decode cX10_layWorth 51 = .ok (.iload_n 2, 1) := by decide +kernel
theorem dX10_layWorth_52 : decode cX10_layWorth 52 = .ok (.iload_n 3, 1) := by decide +kernel
theorem dX10_layWorth_53 : decode cX10_layWorth 53 = .ok (.isub, 1) := by decide +kernel
theorem dX10_layWorth_54 : decode cX10_layWorth 54 = .ok (.iaload, 1) := by decide +kernel
theorem dX10_layWorth_55 : decode cX10_layWorth 55 = .ok (.ixor, 1) := by decide +kernel
theorem dX10_layWorth_56 : decode cX10_layWorth 56 = .ok (.iconst 1, 1) := by decide +kernel
theorem dX10_layWorth_57 : decode cX10_layWorth 57 = .ok (.bastore, 1) := by decide +kernel
theorem dX10_layWorth_58 : decode cX10_layWorth 58 = .ok (.iinc 3 1, 3) := by decide +kernel
theorem dX10_layWorth_61 : decode cX10_layWorth 61 = .ok (.goto (-31), 3) := by decide +kernel
theorem dX10_layWorth_64 : decode cX10_layWorth 64 = .ok (.iconst 0, 1) := by decide +kernel
theorem dX10_layWorth_65 : decode cX10_layWorth 65 = .ok (.istore_n 3, 1) := by decide +kernel
theorem dX10_layWorth_66 : decode cX10_layWorth 66 = .ok (.aload_n 0, 1) := by decide +kernel
theorem dX10_layWorth_67 : decode cX10_layWorth 67 = .ok (.getfield 52, 3) := by decide +kernel
theorem dX10_layWorth_70 : decode cX10_layWorth 70 = .ok (.iload_n 3, 1) := by decide +kernel
theorem dX10_layWorth_71 : decode cX10_layWorth 71 = .ok (.baload, 1) := by decide +kernel
theorem dX10_layWorth_72 : decode cX10_layWorth 72 = .ok (.ifCond .eq 9, 3) := by decide +kernel
theorem dX10_layWorth_75 : decode cX10_layWorth 75 = .ok (.iinc 3 1, 3) := by decide +kernel
theorem dX10_layWorth_78 : decode cX10_layWorth 78 = .ok (.goto (-12), 3) := by decide +kernel
theorem dX10_layWorth_81 : decode cX10_layWorth 81 = .ok (.aload_n 0, 1) := by decide +kernel
theorem dX10_layWorth_82 : decode cX10_layWorth 82 = .ok (.getfield 49, 3) := by decide +kernel
theorem dX10_layWorth_85 : decode cX10_layWorth 85 = .ok (.iload_n 2, 1) := by decide +kernel
theorem dX10_layWorth_86 : decode cX10_layWorth 86 = .ok (.iload_n 3, 1) := by decide +kernel
theorem dX10_layWorth_87 : decode cX10_layWorth 87 = .ok (.iastore, 1) := by decide +kernel
theorem dX10_layWorth_88 : decode cX10_layWorth 88 = .ok (.iinc 2 1, 3) := by decide +kernel
theorem dX10_layWorth_91 : decode cX10_layWorth 91 = .ok (.goto (-89), 3) := by decide +kernel
theorem dX10_layWorth_94 : decode cX10_layWorth 94 = .ok (.return_, 1) := by decide +kernel
theorem dX10_heaps_0 : decode cX10_heaps 0 = .ok (.iload_n 1, 1) := by decide +kernel
theorem dX10_heaps_1 : decode cX10_heaps 1 = .ok (.iconst 0, 1) := by decide +kernel
theorem dX10_heaps_2 : decode cX10_heaps 2 = .ok (.bipush 60, 2) := by decide +kernel
theorem dX10_heaps_4 : decode cX10_heaps 4 = .ok (.invokestatic 62, 3) := by decide +kernel
theorem dX10_heaps_7 : decode cX10_heaps 7 = .ok (.ifCond .eq 12, 3) := by decide +kernel
theorem dX10_heaps_10 : decode cX10_heaps 10 = .ok (.iload_n 2, 1) := by decide +kernel
theorem dX10_heaps_11 : decode cX10_heaps 11 = .ok (.iconst 0, 1) := by decide +kernel
theorem dX10_heaps_12 : decode cX10_heaps 12 = .ok (.iconst 1, 1) := by decide +kernel
theorem dX10_heaps_13 : decode cX10_heaps 13 = .ok (.invokestatic 62, 3) := by decide +kernel
theorem dX10_heaps_16 : decode cX10_heaps 16 = .ok (.ifCond .ne 6, 3) := by decide +kernel
theorem dX10_heaps_19 : decode cX10_heaps 19 = .ok (.bipush (-2), 2) := by decide +kernel
theorem dX10_heaps_21 : decode cX10_heaps 21 = .ok (.ireturn, 1) := by decide +kernel
theorem dX10_heaps_22 : decode cX10_heaps 22 = .ok (.aload_n 0, 1) := by decide +kernel
theorem dX10_heaps_23 : decode cX10_heaps 23 = .ok (.iload_n 1, 1) := by decide +kernel
theorem dX10_heaps_24 : decode cX10_heaps 24 = .ok (.invokevirtual 166, 3) := by decide +kernel
theorem dX10_heaps_27 : decode cX10_heaps 27 = .ok (.iload_n 2, 1) := by decide +kernel
theorem dX10_heaps_28 : decode cX10_heaps 28 = .ok (.ifCond .ne 18, 3) := by decide +kernel
theorem dX10_heaps_31 : decode cX10_heaps 31 = .ok (.aload_n 0, 1) := by decide +kernel
theorem dX10_heaps_32 : decode cX10_heaps 32 = .ok (.getfield 49, 3) := by decide +kernel
theorem dX10_heaps_35 : decode cX10_heaps 35 = .ok (.iload_n 1, 1) := by decide +kernel
theorem dX10_heaps_36 : decode cX10_heaps 36 = .ok (.iaload, 1) := by decide +kernel
theorem dX10_heaps_37 : decode cX10_heaps 37 = .ok (.ifCond .le 7, 3) := by decide +kernel
theorem dX10_heaps_40 : decode cX10_heaps 40 = .ok (.iconst 1, 1) := by decide +kernel
theorem dX10_heaps_41 : decode cX10_heaps 41 = .ok (.goto 4, 3) := by decide +kernel
theorem dX10_heaps_44 : decode cX10_heaps 44 = .ok (.iconst 0, 1) := by decide +kernel
theorem dX10_heaps_45 : decode cX10_heaps 45 = .ok (.ireturn, 1) := by decide +kernel
theorem dX10_heaps_46 : decode cX10_heaps 46 = .ok (.iconst 1, 1) := by decide +kernel
theorem dX10_heaps_47 : decode cX10_heaps 47 = .ok (.istore_n 3, 1) := by decide +kernel
theorem dX10_heaps_48 : decode cX10_heaps 48 = .ok (.iconst 2, 1) := by decide +kernel
theorem dX10_heaps_49 : decode cX10_heaps 49 = .ok (.iload_n 3, 1) := by decide +kernel
theorem dX10_heaps_50 : decode cX10_heaps 50 = .ok (.imul, 1) := by decide +kernel
theorem dX10_heaps_51 : decode cX10_heaps 51 = .ok (.iload_n 1, 1) := by decide +kernel
theorem dX10_heaps_52 : decode cX10_heaps 52 = .ok (.if_icmp .ge 28, 3) := by decide +kernel
theorem dX10_heaps_55 : decode cX10_heaps 55 = .ok (.aload_n 0, 1) := by decide +kernel
theorem dX10_heaps_56 : decode cX10_heaps 56 = .ok (.getfield 49, 3) := by decide +kernel
theorem dX10_heaps_59 : decode cX10_heaps 59 = .ok (.iload_n 3, 1) := by decide +kernel
theorem dX10_heaps_60 : decode cX10_heaps 60 = .ok (.iaload, 1) := by decide +kernel
theorem dX10_heaps_61 : decode cX10_heaps 61 = .ok (.aload_n 0, 1) := by decide +kernel
theorem dX10_heaps_62 : decode cX10_heaps 62 = .ok (.getfield 49, 3) := by decide +kernel
theorem dX10_heaps_65 : decode cX10_heaps 65 = .ok (.iload_n 1, 1) := by decide +kernel
theorem dX10_heaps_66 : decode cX10_heaps 66 = .ok (.iload_n 3, 1) := by decide +kernel
theorem dX10_heaps_67 : decode cX10_heaps 67 = .ok (.isub, 1) := by decide +kernel
theorem dX10_heaps_68 : decode cX10_heaps 68 = .ok (.iaload, 1) := by decide +kernel
theorem dX10_heaps_69 : decode cX10_heaps 69 = .ok (.if_icmp .ne 5, 3) := by decide +kernel
theorem dX10_heaps_72 : decode cX10_heaps 72 = .ok (.iload_n 3, 1) := by decide +kernel
theorem dX10_heaps_73 : decode cX10_heaps 73 = .ok (.ireturn, 1) := by decide +kernel
theorem dX10_heaps_74 : decode cX10_heaps 74 = .ok (.iinc 3 1, 3) := by decide +kernel
theorem dX10_heaps_77 : decode cX10_heaps 77 = .ok (.goto (-29), 3) := by decide +kernel
theorem dX10_heaps_80 : decode cX10_heaps 80 = .ok (.bipush (-6), 2) := by decide +kernel
theorem dX10_heaps_82 : decode cX10_heaps 82 = .ok (.ireturn, 1) := by decide +kernel
theorem dX10_power_0 : decode cX10_power 0 = .ok (.lconst 1, 1) := by decide +kernel
theorem dX10_power_1 : decode cX10_power 1 = .ok (.lstore_n 2, 1) := by decide +kernel
theorem dX10_power_2 : decode cX10_power 2 = .ok (.iconst 0, 1) := by decide +kernel
theorem dX10_power_3 : decode cX10_power 3 = .ok (.istore 4, 2) := by decide +kernel
theorem dX10_power_5 : decode cX10_power 5 = .ok (.iload 4, 2) := by decide +kernel
