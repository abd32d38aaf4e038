theorem dX0_init_0 : decode cX0_init 0 = .ok (.aload_n 0, 1) := by decide +kernel
theorem dX0_init_1 : decode cX0_init 1 = .ok (.invokespecial 3, 3) := by decide +kernel
theorem dX0_init_4 : decode cX0_init 4 = .ok (.aload_n 0, 1) := by decide +kernel
theorem dX0_init_5 : decode cX0_init 5 = .ok (.bipush 6, 2) := by decide +kernel
theorem dX0_init_7 : decode cX0_init 7 = .ok (.anewarray 9, 3) := by decide +kernel
theorem dX0_init_10 : decode cX0_init 10 = .ok (.putfield 11, 3) := by decide +kernel
theorem dX0_init_13 : decode cX0_init 13 = .ok (.aload_n 0, 1) := by decide +kernel
theorem dX0_init_14 : decode cX0_init 14 = .ok (.bipush 6, 2) := by decide +kernel
theorem dX0_init_16 : decode cX0_init 16 = .ok (.anewarray 9, 3) := by decide +kernel
theorem dX0_init_19 : decode cX0_init 19 = .ok (.putfield 17, 3) := by decide +kernel
theorem dX0_init_22 : decode cX0_init 22 = .ok (.aload_n 0, 1) := by decide +kernel
theorem dX0_init_23 : decode cX0_init 23 = .ok (.new 20, 3) := by decide +kernel
theorem dX0_init_26 : decode cX0_init 26 = .ok (.dup, 1) := by decide +kernel
theorem dX0_init_27 : decode cX0_init 27 = .ok (.bipush 6, 2) := by decide +kernel
theorem dX0_init_29 : decode cX0_init 29 = .ok (.invokespecial 22, 3) := by decide +kernel
theorem dX0_init_32 : decode cX0_init 32 = .ok (.putfield 25, 3) := by decide +kernel
theorem dX0_init_35 : decode cX0_init 35 = .ok (.aload_n 0, 1) := by decide +kernel
theorem dX0_init_36 : decode cX0_init 36 = .ok (.bipush 6, 2) := by decide +kernel
theorem dX0_init_38 : decode cX0_init 38 = .ok (.newarray .int, 2) := by decide +kernel
theorem dX0_init_40 : decode cX0_init 40 = .ok (.putfield 29, 3) := by decide +kernel
theorem dX0_init_43 : decode cX0_init 43 = .ok (.aload_n 0, 1) := by decide +kernel
theorem dX0_init_44 : decode cX0_init 44 = .ok (.bipush 6, 2) := by decide +kernel
theorem dX0_init_46 : decode cX0_init 46 = .ok (.newarray .int, 2) := by decide +kernel
theorem dX0_init_48 : decode cX0_init 48 = .ok (.putfield 33, 3) := by decide +kernel
theorem dX0_init_51 : decode cX0_init 51 = .ok (.aload_n 0, 1) := by decide +kernel
theorem dX0_init_52 : decode cX0_init 52 = .ok (.new 36, 3) := by decide +kernel
theorem dX0_init_55 : decode cX0_init 55 = .ok (.dup, 1) := by decide +kernel
theorem dX0_init_56 : decode cX0_init 56 = .ok (.invokespecial 38, 3) := by decide +kernel
theorem dX0_init_59 : decode cX0_init 59 = .ok (.putfield 39, 3) := by decide +kernel
theorem dX0_init_62 : decode cX0_init 62 = .ok (.aload_n 0, 1) := by decide +kernel
theorem dX0_init_63 : decode cX0_init 63 = .ok (.new 43, 3) := by decide +kernel
theorem dX0_init_66 : decode cX0_init 66 = .ok (.dup, 1) := by decide +kernel
theorem dX0_init_67 : decode cX0_init 67 = .ok (.invokespecial 45, 3) := by decide +kernel
theorem dX0_init_70 : decode cX0_init 70 = .ok (.putfield 46, 3) := by decide +kernel
theorem dX0_init_73 : decode cX0_init 73 = .ok (.iconst 0, 1) := by decide +kernel
theorem dX0_init_74 : decode cX0_init 74 = .ok (.istore_n 1, 1) := by decide +kernel
theorem dX0_init_75 : decode cX0_init 75 = .ok (.iload_n 1, 1) := by decide +kernel
theorem dX0_init_76 : decode cX0_init 76 = .ok (.bipush 6, 2) := by decide +kernel
theorem dX0_init_78 : decode cX0_init 78 = .ok (.if_icmp .ge 35, 3) := by decide +kernel
theorem dX0_init_81 : decode cX0_init 81 = .ok (.aload_n 0, 1) := by decide +kernel
theorem dX0_init_82 : decode cX0_init 82 = .ok (.getfield 11, 3) := by decide +kernel
theorem dX0_init_85 : decode cX0_init 85 = .ok (.iload_n 1, 1) := by decide +kernel
theorem dX0_init_86 : decode cX0_init 86 = .ok (.new 9, 3) := by decide +kernel
theorem dX0_init_89 : decode cX0_init 89 = .ok (.dup, 1) := by decide +kernel
theorem dX0_init_90 : decode cX0_init 90 = .ok (.invokespecial 50, 3) := by decide +kernel
theorem dX0_init_93 : decode cX0_init 93 = .ok (.aastore, 1) := by decide +kernel
theorem dX0_init_94 : decode cX0_init 94 = .ok (.aload_n 0, 1) := by decide +kernel
theorem dX0_init_95 : decode cX0_init 95 = .ok (.getfield 17, 3) := by decide +kernel
theorem dX0_init_98 : decode cX0_init 98 = .ok (.iload_n 1, 1) := by decide +kernel
theorem dX0_init_99 : decode cX0_init 99 = .ok (.new 9, 3) := by decide +kernel
theorem dX0_init_102 : decode cX0_init 102 = .ok (.dup, 1) := by decide +kernel
theorem dX0_init_103 : decode cX0_init 103 = .ok (.invokespecial 50, 3) := by decide +kernel
theorem dX0_init_106 : decode cX0_init 106 = .ok (.aastore, 1) := by decide +kernel
theorem dX0_init_107 : decode cX0_init 107 = .ok (.iinc 1 1, 3) := by decide +kernel
theorem dX0_init_110 : decode cX0_init 110 = .ok (.goto (-35), 3) := by decide +kernel
theorem dX0_init_113 : decode cX0_init 113 = .ok (.return_, 1) := by decide +kernel
theorem dX0_faultOf_0 : decode cX0_faultOf 0 = .ok (.aload_n 0, 1) := by decide +kernel
theorem dX0_faultOf_1 : decode cX0_faultOf 1 = .ok (.getfield 39, 3) := by decide +kernel
theorem dX0_faultOf_4 : decode cX0_faultOf 4 = .ok (.aload_n 0, 1) := by decide +kernel
theorem dX0_faultOf_5 : decode cX0_faultOf 5 = .ok (.getfield 11, 3) := by decide +kernel
theorem dX0_faultOf_8 : decode cX0_faultOf 8 = .ok (.iload_n 1, 1) := by decide +kernel
theorem dX0_faultOf_9 : decode cX0_faultOf 9 = .ok (.aaload, 1) := by decide +kernel
theorem dX0_faultOf_10 : decode cX0_faultOf 10 = .ok (.invokevirtual 51, 3) := by decide +kernel
theorem dX0_faultOf_13 : decode cX0_faultOf 13 = .ok (.ireturn, 1) := by decide +kernel
theorem dX0_canBeSet_0 : decode cX0_canBeSet 0 = .ok (.aload_n 0, 1) := by decide +kernel
theorem dX0_canBeSet_1 : decode cX0_canBeSet 1 = .ok (.iload_n 1, 1) := by decide +kernel
theorem dX0_canBeSet_2 : decode cX0_canBeSet 2 = .ok (.invokevirtual 55, 3) := by decide +kernel
theorem dX0_canBeSet_5 : decode cX0_canBeSet 5 = .ok (.iconst (-1), 1) := by decide +kernel
theorem dX0_canBeSet_6 : decode cX0_canBeSet 6 = .ok (.if_icmp .ne 27, 3) := by decide +kernel
theorem dX0_canBeSet_9 : decode cX0_canBeSet 9 = .ok (.aload_n 0, 1) := by decide +kernel
theorem dX0_canBeSet_10 : decode cX0_canBeSet 10 = .ok (.getfield 25, 3) := by decide +kernel
theorem dX0_canBeSet_13 : decode cX0_canBeSet 13 = .ok (.iload_n 1, 1) := by decide +kernel
theorem dX0_canBeSet_14 : decode cX0_canBeSet 14 = .ok (.aload_n 0, 1) := by decide +kernel
theorem dX0_canBeSet_15 : decode cX0_canBeSet 15 = .ok (.getfield 11, 3) := by decide +kernel
theorem dX0_canBeSet_18 : decode cX0_canBeSet 18 = .ok (.iload_n 1, 1) := by decide +kernel
theorem dX0_canBeSet_19 : decode cX0_canBeSet 19 = .ok (.aaload, 1) := by decide +kernel
theorem dX0_canBeSet_20 : decode cX0_canBeSet 20 = .ok (.invokevirtual 59, 3) := by decide +kernel
theorem dX0_canBeSet_23 : decode cX0_canBeSet 23 = .ok (.invokevirtual 63, 3) := by decide +kernel
theorem dX0_canBeSet_26 : decode cX0_canBeSet 26 = .ok (.ifCond .ne 7, 3) := by decide +kernel
theorem dX0_canBeSet_29 : decode cX0_canBeSet 29 = .ok (.iconst 1, 1) := by decide +kernel
theorem dX0_canBeSet_30 : decode cX0_canBeSet 30 = .ok (.goto 4, 3) := by decide +kernel
theorem dX0_canBeSet_33 : decode cX0_canBeSet 33 = .ok (.iconst 0, 1) := by decide +kernel
theorem dX0_canBeSet_34 : decode cX0_canBeSet 34 = .ok (.ireturn, 1) := by decide +kernel
theorem dX0_settle_0 : decode cX0_settle 0 = .ok (.iconst 0, 1) := by decide +kernel
theorem dX0_settle_1 : decode cX0_settle 1 = .ok (.istore_n 2, 1) := by decide +kernel
theorem dX0_settle_2 : decode cX0_settle 2 = .ok (.iload_n 2, 1) := by decide +kernel
theorem dX0_settle_3 : decode cX0_settle 3 = .ok (.bipush 6, 2) := by decide +kernel
theorem dX0_settle_5 : decode cX0_settle 5 = .ok (.if_icmp .ge 43, 3) := by decide +kernel
theorem dX0_settle_8 : decode cX0_settle 8 = .ok (.aload_n 0, 1) := by decide +kernel
theorem dX0_settle_9 : decode cX0_settle 9 = .ok (.getfield 25, 3) := by decide +kernel
theorem dX0_settle_12 : decode cX0_settle 12 = .ok (.getfield 67, 3) := by decide +kernel
theorem dX0_settle_15 : decode cX0_settle 15 = .ok (.iload_n 2, 1) := by decide +kernel
theorem dX0_settle_16 : decode cX0_settle 16 = .ok (.iaload, 1) := by decide +kernel
theorem dX0_settle_17 : decode cX0_settle 17 = .ok (.istore_n 3, 1) := by decide +kernel
theorem dX0_settle_18 : decode cX0_settle 18 = .ok (.aload_n 0, 1) := by decide +kernel
theorem dX0_settle_19 : decode cX0_settle 19 = .ok (.getfield 29, 3) := by decide +kernel
theorem dX0_settle_22 : decode cX0_settle 22 = .ok (.iload_n 3, 1) := by decide +kernel
theorem dX0_settle_23 : decode cX0_settle 23 = .ok (.aload_n 0, 1) := by decide +kernel
theorem dX0_settle_24 : decode cX0_settle 24 = .ok (.getfield 46, 3) := by decide +kernel
theorem dX0_settle_27 : decode cX0_settle 27 = .ok (.aload_n 0, 1) := by decide +kernel
theorem dX0_settle_28 : decode cX0_settle 28 = .ok (.getfield 17, 3) := by decide +kernel
theorem dX0_settle_31 : decode cX0_settle 31 = .ok (.iload_n 3, 1) := by decide +kernel
theorem dX0_settle_32 : decode cX0_settle 32 = .ok (.aaload, 1) := by decide +kernel
theorem dX0_settle_33 : decode cX0_settle 33 = .ok (.aload_n 1, 1) := by decide +kernel
theorem dX0_settle_34 : decode cX0_settle 34 = .ok (.aload_n 0, 1) := by decide +kernel
theorem dX0_settle_35 : decode cX0_settle 35 = .ok (.getfield 29, 3) := by decide +kernel
theorem dX0_settle_38 : decode cX0_settle 38 = .ok (.invokevirtual 70, 3) := by decide +kernel
theorem dX0_settle_41 : decode cX0_settle 41 = .ok (.iastore, 1) := by decide +kernel
theorem dX0_settle_42 : decode cX0_settle 42 = .ok (.iinc 2 1, 3) := by decide +kernel
theorem dX0_settle_45 : decode cX0_settle 45 = .ok (.goto (-43), 3) := by decide +kernel
theorem dX0_settle_48 : decode cX0_settle 48 = .ok (.return_, 1) := by decide +kernel
theorem dX0_tryDraft_0 : decode cX0_tryDraft 0 = .ok (.aload_n 0, 1) := by decide +kernel
theorem dX0_tryDraft_1 : decode cX0_tryDraft 1 = .ok (.getfield 33, 3) := by decide +kernel
theorem dX0_tryDraft_4 : decode cX0_tryDraft 4 = .ok (.iload_n 1, 1) := by decide +kernel
theorem dX0_tryDraft_5 : decode cX0_tryDraft 5 = .ok (.aload_n 0, 1) := by decide +kernel
theorem dX0_tryDraft_6 : decode cX0_tryDraft 6 = .ok (.getfield 46, 3) := by decide +kernel
theorem dX0_tryDraft_9 : decode cX0_tryDraft 9 = .ok (.aload_n 0, 1) := by decide +kernel
theorem dX0_tryDraft_10 : decode cX0_tryDraft 10 = .ok (.getfield 11, 3) := by decide +kernel
theorem dX0_tryDraft_13 : decode cX0_tryDraft 13 = .ok (.iload_n 1, 1) := by decide +kernel
theorem dX0_tryDraft_14 : decode cX0_tryDraft 14 = .ok (.aaload, 1) := by decide +kernel
theorem dX0_tryDraft_15 : decode cX0_tryDraft 15 = .ok (.aload_n 2, 1) := by decide +kernel
theorem dX0_tryDraft_16 : decode cX0_tryDraft 16 = .ok (.aload_n 0, 1) := by decide +kernel
theorem dX0_tryDraft_17 : decode cX0_tryDraft 17 = .ok (.getfield 29, 3) := by decide +kernel
theorem dX0_tryDraft_20 : decode cX0_tryDraft 20 = .ok (.invokevirtual 70, 3) := by decide +kernel
theorem dX0_tryDraft_23 : decode cX0_tryDraft 23 = .ok (.iastore, 1) := by decide +kernel
theorem dX0_tryDraft_24 : decode cX0_tryDraft 24 = .ok (.iconst 0, 1) := by decide +kernel
theorem dX0_tryDraft_25 : decode cX0_tryDraft 25 = .ok (.istore_n 3, 1) := by decide +kernel
theorem dX0_tryDraft_26 : decode cX0_tryDraft 26 = .ok (.iload_n 3, 1) := by decide +kernel
theorem dX0_tryDraft_27 : decode cX0_tryDraft 27 = .ok (.bipush 6, 2) := by decide +kernel
theorem dX0_tryDraft_29 : decode cX0_tryDraft 29 = .ok (.if_icmp .ge 52, 3) := by decide +kernel
theorem dX0_tryDraft_32 : decode cX0_tryDraft 32 = .ok (.aload_n 0, 1) := by decide +kernel
theorem dX0_tryDraft_33 : decode cX0_tryDraft 33 = .ok (.getfield 25, 3) := by decide +kernel
theorem dX0_tryDraft_36 : decode cX0_tryDraft 36 = .ok (.getfield 67, 3) := by decide +kernel
theorem dX0_tryDraft_39 : decode cX0_tryDraft 39 = .ok (.iload_n 3, 1) := by decide +kernel
theorem dX0_tryDraft_40 : decode cX0_tryDraft 40 = .ok (.iaload, 1) := by decide +kernel
theorem dX0_tryDraft_41 : decode cX0_tryDraft 41 = .ok (.istore 4, 2) := by decide +kernel
theorem dX0_tryDraft_43 : decode cX0_tryDraft 43 = .ok (.iload 4, 2) := by decide +kernel
theorem dX0_tryDraft_45 : decode cX0_tryDraft 45 = .ok (.iload_n 1, 1) := by decide +kernel
theorem dX0_tryDraft_46 : decode cX0_tryDraft 46 = .ok (.if_icmp .eq 29, 3) := by decide +kernel
theorem dX0_tryDraft_49 : decode cX0_tryDraft 49 = .ok (.aload_n 0, 1) := by decide +kernel
theorem dX0_tryDraft_50 : decode cX0_tryDraft 50 = .ok (.getfield 33, 3) := by decide +kernel
theorem dX0_tryDraft_53 : decode cX0_tryDraft 53 = .ok (.iload 4, 2) := by decide +kernel
theorem dX0_tryDraft_55 : decode cX0_tryDraft 55 = .ok (.aload_n 0, 1) := by decide +kernel
theorem dX0_tryDraft_56 : decode cX0_tryDraft 56 = .ok (.getfield 46, 3) := by decide +kernel
theorem dX0_tryDraft_59 : decode cX0_tryDraft 59 = .ok (.aload_n 0, 1) := by decide +kernel
theorem dX0_tryDraft_60 : decode cX0_tryDraft 60 = .ok (.getfield 17, 3) := by decide +kernel
theorem dX0_tryDraft_63 : decode cX0_tryDraft 63 = .ok (.iload 4, 2) := by decide +kernel
theorem dX0_tryDraft_65 : decode cX0_tryDraft 65 = .ok (.aaload, 1) := by decide +kernel
theorem dX0_tryDraft_66 : decode cX0_tryDraft 66 = .ok (.aload_n 2, 1) := by decide +kernel
theorem dX0_tryDraft_67 : decode cX0_tryDraft 67 = .ok (.aload_n 0, 1) := by decide +kernel
theorem dX0_tryDraft_68 : decode cX0_tryDraft 68 = .ok (.getfield 33, 3) := by decide +kernel
theorem dX0_tryDraft_71 : decode cX0_tryDraft 71 = .ok (.invokevirtual 70, 3) := by decide +kernel
theorem dX0_tryDraft_74 : decode cX0_tryDraft 74 = .ok (.iastore, 1) := by decide +kernel
theorem dX0_tryDraft_75 : decode cX0_tryDraft 75 = .ok (.iinc 3 1, 3) := by decide +kernel
theorem dX0_tryDraft_78 : decode cX0_tryDraft 78 = .ok (.goto (-52), 3) := by decide +kernel
theorem dX0_tryDraft_81 : decode cX0_tryDraft 81 = .ok (.return_, 1) := by decide +kernel
theorem dX0_adoptDraft_0 : decode cX0_adoptDraft 0 = .ok (.aload_n 0, 1) := by decide +kernel
theorem dX0_adoptDraft_1 : decode cX0_adoptDraft 1 = .ok (.getfield 17, 3) := by decide +kernel
theorem dX0_adoptDraft_4 : decode cX0_adoptDraft 4 = .ok (.iload_n 1, 1) := by decide +kernel
theorem dX0_adoptDraft_5 : decode cX0_adoptDraft 5 = .ok (.aaload, 1) := by decide +kernel
theorem dX0_adoptDraft_6 : decode cX0_adoptDraft 6 = .ok (.aload_n 0, 1) := by decide +kernel
theorem dX0_adoptDraft_7 : decode cX0_adoptDraft 7 = .ok (.getfield 11, 3) := by decide +kernel
theorem dX0_adoptDraft_10 : decode cX0_adoptDraft 10 = .ok (.iload_n 1, 1) := by decide +kernel
theorem dX0_adoptDraft_11 : decode cX0_adoptDraft 11 = .ok (.aaload, 1) := by decide +kernel
theorem dX0_adoptDraft_12 : decode cX0_adoptDraft 12 = .ok (.invokevirtual 74, 3) := by decide +kernel
theorem dX0_adoptDraft_15 : decode cX0_adoptDraft 15 = .ok (.aload_n 0, 1) := by decide +kernel
theorem dX0_adoptDraft_16 : decode cX0_adoptDraft 16 = .ok (.getfield 25, 3) := by decide +kernel
theorem dX0_adoptDraft_19 : decode cX0_adoptDraft 19 = .ok (.iload_n 1, 1) := by decide +kernel
theorem dX0_adoptDraft_20 : decode cX0_adoptDraft 20 = .ok (.aload_n 0, 1) := by decide +kernel
theorem dX0_adoptDraft_21 : decode cX0_adoptDraft 21 = .ok (.getfield 11, 3) := by decide +kernel
theorem dX0_adoptDraft_24 : decode cX0_adoptDraft 24 = .ok (.iload_n 1, 1) := by decide +kernel
theorem dX0_adoptDraft_25 : decode cX0_adoptDraft 25 = .ok (.aaload, 1) := by decide +kernel
theorem dX0_adoptDraft_26 : decode cX0_adoptDraft 26 = .ok (.invokevirtual 59, 3) := by decide +kernel
theorem dX0_adoptDraft_29 : decode cX0_adoptDraft 29 = .ok (.invokevirtual 78, 3) := by decide +kernel
theorem dX0_adoptDraft_32 : decode cX0_adoptDraft 32 = .ok (.aload_n 0, 1) := by decide +kernel
theorem dX0_adoptDraft_33 : decode cX0_adoptDraft 33 = .ok (.getfield 33, 3) := by decide +kernel
theorem dX0_adoptDraft_36 : decode cX0_adoptDraft 36 = .ok (.iconst 0, 1) := by decide +kernel
theorem dX0_adoptDraft_37 : decode cX0_adoptDraft 37 = .ok (.aload_n 0, 1) := by decide +kernel
theorem dX0_adoptDraft_38 : decode cX0_adoptDraft 38 = .ok (.getfield 29, 3) := by decide +kernel
theorem dX0_adoptDraft_41 : decode cX0_adoptDraft 41 = .ok (.iconst 0, 1) := by decide +kernel
theorem dX0_adoptDraft_42 : decode cX0_adoptDraft 42 = .ok (.bipush 6, 2) := by decide +kernel
theorem dX0_adoptDraft_44 : decode cX0_adoptDraft 44 = .ok (.invokestatic 82, 3) := by decide +kernel
theorem dX0_adoptDraft_47 : decode cX0_adoptDraft 47 = .ok (.return_, 1) := by decide +kernel
theorem dX1_init_0 : decode cX1_init 0 = .ok (.aload_n 0, 1) := by decide +kernel
theorem dX1_init_1 : decode cX1_init 1 = .ok (.invokespecial 3, 3) := by decide +kernel
theorem dX1_init_4 : decode cX1_init 4 = .ok (.aload_n 0, 1) := by decide +kernel
theorem dX1_init_5 : decode cX1_init 5 = .ok (.iload_n 1, 1) := by decide +kernel
theorem dX1_init_6 : decode cX1_init 6 = .ok (.putfield 9, 3) := by decide +kernel
theorem dX1_init_9 : decode cX1_init 9 = .ok (.aload_n 0, 1) := by decide +kernel
theorem dX1_init_10 : decode cX1_init 10 = .ok (.iload_n 2, 1) := by decide +kernel
theorem dX1_init_11 : decode cX1_init 11 = .ok (.putfield 15, 3) := by decide +kernel
theorem dX1_init_14 : decode cX1_init 14 = .ok (.aload_n 0, 1) := by decide +kernel
theorem dX1_init_15 : decode cX1_init 15 = .ok (.iload_n 3, 1) := by decide +kernel
theorem dX1_init_16 : decode cX1_init 16 = .ok (.putfield 18, 3) := by decide +kernel
theorem dX1_init_19 : decode cX1_init 19 = .ok (.aload_n 0, 1) := by decide +kernel
theorem dX1_init_20 : decode cX1_init 20 = .ok (.iload 4, 2) := by decide +kernel
theorem dX1_init_22 : decode cX1_init 22 = .ok (.putfield 21, 3) := by decide +kernel
theorem dX1_init_25 : decode cX1_init 25 = .ok (.aload_n 0, 1) := by decide +kernel
theorem dX1_init_26 : decode cX1_init 26 = .ok (.iload 5, 2) := by decide +kernel
theorem dX1_init_28 : decode cX1_init 28 = .ok (.putfield 24, 3) := by decide +kernel
theorem dX1_init_31 : decode cX1_init 31 = .ok (.return_, 1) := by decide +kernel
theorem dX1_concerns_0 : decode cX1_concerns 0 = .ok (.aload_n 0, 1) := by decide +kernel
theorem dX1_concerns_1 : decode cX1_concerns 1 = .ok (.getfield 15, 3) := by decide +kernel
theorem dX1_concerns_4 : decode cX1_concerns 4 = .ok (.iconst (-1), 1) := by decide +kernel
theorem dX1_concerns_5 : decode cX1_concerns 5 = .ok (.if_icmp .eq 11, 3) := by decide +kernel
theorem dX1_concerns_8 : decode cX1_concerns 8 = .ok (.aload_n 0, 1) := by decide +kernel
theorem dX1_concerns_9 : decode cX1_concerns 9 = .ok (.getfield 15, 3) := by decide +kernel
theorem dX1_concerns_12 : decode cX1_concerns 12 = .ok (.iload_n 1, 1) := by decide +kernel
theorem dX1_concerns_13 : decode cX1_concerns 13 = .ok (.if_icmp .ne 7, 3) := by decide +kernel
theorem dX1_concerns_16 : decode cX1_concerns 16 = .ok (.iconst 1, 1) := by decide +kernel
theorem dX1_concerns_17 : decode cX1_concerns 17 = .ok (.goto 4, 3) := by decide +kernel
theorem dX1_concerns_20 : decode cX1_concerns 20 = .ok (.iconst 0, 1) := by decide +kernel
theorem dX1_concerns_21 : decode cX1_concerns 21 = .ok (.ireturn, 1) := by decide +kernel
theorem dX2_init_0 : decode cX2_init 0 = .ok (.aload_n 0, 1) := by decide +kernel
theorem dX2_init_1 : decode cX2_init 1 = .ok (.invokespecial 3, 3) := by decide +kernel
theorem dX2_init_4 : decode cX2_init 4 = .ok (.aload_n 0, 1) := by decide +kernel
theorem dX2_init_5 : decode cX2_init 5 = .ok (.bipush 9, 2) := by decide +kernel
theorem dX2_init_7 : decode cX2_init 7 = .ok (.newarray .int, 2) := by decide +kernel
theorem dX2_init_9 : decode cX2_init 9 = .ok (.putfield 9, 3) := by decide +kernel
theorem dX2_init_12 : decode cX2_init 12 = .ok (.aload_n 0, 1) := by decide +kernel
theorem dX2_init_13 : decode cX2_init 13 = .ok (.bipush 9, 2) := by decide +kernel
theorem dX2_init_15 : decode cX2_init 15 = .ok (.newarray .int, 2) := by decide +kernel
theorem dX2_init_17 : decode cX2_init 17 = .ok (.putfield 15, 3) := by decide +kernel
theorem dX2_init_20 : decode cX2_init 20 = .ok (.aload_n 0, 1) := by decide +kernel
theorem dX2_init_21 : decode cX2_init 21 = .ok (.bipush 9, 2) := by decide +kernel
theorem dX2_init_23 : decode cX2_init 23 = .ok (.newarray .int, 2) := by decide +kernel
theorem dX2_init_25 : decode cX2_init 25 = .ok (.putfield 18, 3) := by decide +kernel
theorem dX2_init_28 : decode cX2_init 28 = .ok (.return_, 1) := by decide +kernel
theorem dX2_whoMeets_0 : decode cX2_whoMeets 0 = .ok (.aload_n 1, 1) := by decide +kernel
theorem dX2_whoMeets_1 : decode cX2_whoMeets 1 = .ok (.getfield 21, 3) := by decide +kernel
theorem dX2_whoMeets_4 : decode cX2_whoMeets 4 = .ok (.ifCond .ne 5, 3) := by decide +kernel
theorem dX2_whoMeets_7 : decode cX2_whoMeets 7 = .ok (.iconst 0, 1) := by decide +kernel
theorem dX2_whoMeets_8 : decode cX2_whoMeets 8 = .ok (.ireturn, 1) := by decide +kernel
theorem dX2_whoMeets_9 : decode cX2_whoMeets 9 = .ok (.aload_n 0, 1) := by decide +kernel
theorem dX2_whoMeets_10 : decode cX2_whoMeets 10 = .ok (.iconst 0, 1) := by decide +kernel
theorem dX2_whoMeets_11 : decode cX2_whoMeets 11 = .ok (.putfield 27, 3) := by decide +kernel
theorem dX2_whoMeets_14 : decode cX2_whoMeets 14 = .ok (.aload_n 0, 1) := by decide +kernel
theorem dX2_whoMeets_15 : decode cX2_whoMeets 15 = .ok (.invokevirtual 30, 3) := by decide +kernel
theorem dX2_whoMeets_18 : decode cX2_whoMeets 18 = .ok (.iconst 0, 1) := by decide +kernel
theorem dX2_whoMeets_19 : decode cX2_whoMeets 19 = .ok (.istore 4, 2) := by decide +kernel
theorem dX2_whoMeets_21 : decode cX2_whoMeets 21 = .ok (.iload 4, 2) := by decide +kernel
theorem dX2_whoMeets_23 : decode cX2_whoMeets 23 = .ok (.aload_n 1, 1) := by decide +kernel
theorem dX2_whoMeets_24 : decode cX2_whoMeets 24 = .ok (.getfield 21, 3) := by decide +kernel
theorem dX2_whoMeets_27 : decode cX2_whoMeets 27 = .ok (.if_icmp .ge 18, 3) := by decide +kernel
theorem dX2_whoMeets_30 : decode cX2_whoMeets 30 = .ok (.aload_n 0, 1) := by decide +kernel
theorem dX2_whoMeets_31 : decode cX2_whoMeets 31 = .ok (.aload_n 1, 1) := by decide +kernel
theorem dX2_whoMeets_32 : decode cX2_whoMeets 32 = .ok (.iload 4, 2) := by decide +kernel
theorem dX2_whoMeets_34 : decode cX2_whoMeets 34 = .ok (.aload_n 2, 1) := by decide +kernel
theorem dX2_whoMeets_35 : decode cX2_whoMeets 35 = .ok (.aload_n 3, 1) := by decide +kernel
theorem dX2_whoMeets_36 : decode cX2_whoMeets 36 = .ok (.invokevirtual 33, 3) := by decide +kernel
theorem dX2_whoMeets_39 : decode cX2_whoMeets 39 = .ok (.iinc 4 1, 3) := by decide +kernel
theorem dX2_whoMeets_42 : decode cX2_whoMeets 42 = .ok (.goto (-21), 3) := by decide +kernel
theorem dX2_whoMeets_45 : decode cX2_whoMeets 45 = .ok (.aload_n 0, 1) := by decide +kernel
theorem dX2_whoMeets_46 : decode cX2_whoMeets 46 = .ok (.getfield 9, 3) := by decide +kernel
theorem dX2_whoMeets_49 : decode cX2_whoMeets 49 = .ok (.iconst 0, 1) := by decide +kernel
theorem dX2_whoMeets_50 : decode cX2_whoMeets 50 = .ok (.iaload, 1) := by decide +kernel
theorem dX2_whoMeets_51 : decode cX2_whoMeets 51 = .ok (.aload_n 0, 1) := by decide +kernel
theorem dX2_whoMeets_52 : decode cX2_whoMeets 52 = .ok (.getfield 15, 3) := by decide +kernel
theorem dX2_whoMeets_55 : decode cX2_whoMeets 55 = .ok (.iconst 0, 1) := by decide +kernel
theorem dX2_whoMeets_56 : decode cX2_whoMeets 56 = .ok (.iaload, 1) := by decide +kernel
theorem dX2_whoMeets_57 : decode cX2_whoMeets 57 = .ok (.ior, 1) := by decide +kernel
theorem dX2_whoMeets_58 : decode cX2_whoMeets 58 = .ok (.ireturn, 1) := by decide +kernel
theorem dX2_readSign_0 : decode cX2_readSign 0 = .ok (.aload_n 1, 1) := by decide +kernel
theorem dX2_readSign_1 : decode cX2_readSign 1 = .ok (.iload_n 2, 1) := by decide +kernel
theorem dX2_readSign_2 : decode cX2_readSign 2 = .ok (.invokevirtual 37, 3) := by decide +kernel
theorem dX2_readSign_5 : decode cX2_readSign 5 = .ok (.lookupswitch 341 #[(33, 91), (40, 108), (41, 134), (42, 216), (64, 321), (97, 251), (108, 225), (112, 277), (116, 303), (124, 181)], 91) := by decide +kernel
theorem dX2_readSign_96 : decode cX2_readSign 96 = .ok (.aload_n 0, 1) := by decide +kernel
theorem dX2_readSign_97 : decode cX2_readSign 97 = .ok (.getfield 18, 3) := by decide +kernel
theorem dX2_readSign_100 : decode cX2_readSign 100 = .ok (.aload_n 0, 1) := by decide +kernel
theorem dX2_readSign_101 : decode cX2_readSign 101 = .ok (.getfield 27, 3) := by decide +kernel
theorem dX2_readSign_104 : decode cX2_readSign 104 = .ok (.dup2, 1) := by decide +kernel
theorem dX2_readSign_105 : decode cX2_readSign 105 = .ok (.iaload, 1) := by decide +kernel
theorem dX2_readSign_106 : decode cX2_readSign 106 = .ok (.ldc 41, 2) := by decide +kernel
theorem dX2_readSign_108 : decode cX2_readSign 108 = .ok (.ixor, 1) := by decide +kernel
theorem dX2_readSign_109 : decode cX2_readSign 109 = .ok (.iastore, 1) := by decide +kernel
theorem dX2_readSign_110 : decode cX2_readSign 110 = .ok (.goto 236, 3) := by decide +kernel
theorem dX2_readSign_113 : decode cX2_readSign 113 = .ok (.aload_n 0, 1) := by decide +kernel
theorem dX2_readSign_114 : decode cX2_readSign 114 = .ok (.getfield 27, 3) := by decide +kernel
theorem dX2_readSign_117 : decode cX2_readSign 117 = .ok (.bipush 8, 2) := by decide +kernel
theorem dX2_readSign_119 : decode cX2_readSign 119 = .ok (.if_icmp .ge 227, 3) := by decide +kernel
theorem dX2_readSign_122 : decode cX2_readSign 122 = .ok (.aload_n 0, 1) := by decide +kernel
theorem dX2_readSign_123 : decode cX2_readSign 123 = .ok (.dup, 1) := by decide +kernel
theorem dX2_readSign_124 : decode cX2_readSign 124 = .ok (.getfield 27, 3) := by decide +kernel
theorem dX2_readSign_127 : decode cX2_readSign 127 = .ok (.iconst 1, 1) := by decide +kernel
theorem dX2_readSign_128 : decode cX2_readSign 128 = .ok (.iadd, 1) := by decide +kernel
theorem dX2_readSign_129 : decode cX2_readSign 129 = .ok (.putfield 27, 3) := by decide +kernel
theorem dX2_readSign_132 : decode cX2_readSign 132 = .ok (.aload_n 0, 1) := by decide +kernel
theorem dX2_readSign_133 : decode cX2_readSign 133 = .ok (.invokevirtual 30, 3) := by decide +kernel
theorem dX2_readSign_136 : decode cX2_readSign 136 = .ok (.goto 210, 3) := by decide +kernel
theorem dX2_readSign_139 : decode cX2_readSign 139 = .ok (.aload_n 0, 1) := by decide +kernel
theorem dX2_readSign_140 : decode cX2_readSign 140 = .ok (.getfield 27, 3) := by decide +kernel
theorem dX2_readSign_143 : decode cX2_readSign 143 = .ok (.ifCond .le 203, 3) := by decide +kernel
theorem dX2_readSign_146 : decode cX2_readSign 146 = .ok (.aload_n 0, 1) := by decide +kernel
theorem dX2_readSign_147 : decode cX2_readSign 147 = .ok (.dup, 1) := by decide +kernel
theorem dX2_readSign_148 : decode cX2_readSign 148 = .ok (.getfield 27, 3) := by decide +kernel
theorem dX2_readSign_151 : decode cX2_readSign 151 = .ok (.iconst 1, 1) := by decide +kernel
theorem dX2_readSign_152 : decode cX2_readSign 152 = .ok (.isub, 1) := by decide +kernel
theorem dX2_readSign_153 : decode cX2_readSign 153 = .ok (.putfield 27, 3) := by decide +kernel
theorem dX2_readSign_156 : decode cX2_readSign 156 = .ok (.aload_n 0, 1) := by decide +kernel
theorem dX2_readSign_157 : decode cX2_readSign 157 = .ok (.aload_n 0, 1) := by decide +kernel
theorem dX2_readSign_158 : decode cX2_readSign 158 = .ok (.getfield 9, 3) := by decide +kernel
theorem dX2_readSign_161 : decode cX2_readSign 161 = .ok (.aload_n 0, 1) := by decide +kernel
theorem dX2_readSign_162 : decode cX2_readSign 162 = .ok (.getfield 27, 3) := by decide +kernel
theorem dX2_readSign_165 : decode cX2_readSign 165 = .ok (.iconst 1, 1) := by decide +kernel
theorem dX2_readSign_166 : decode cX2_readSign 166 = .ok (.iadd, 1) := by decide +kernel
theorem dX2_readSign_167 : decode cX2_readSign 167 = .ok (.iaload, 1) := by decide +kernel
theorem dX2_readSign_168 : decode cX2_readSign 168 = .ok (.aload_n 0, 1) := by decide +kernel
theorem dX2_readSign_169 : decode cX2_readSign 169 = .ok (.getfield 15, 3) := by decide +kernel
theorem dX2_readSign_172 : decode cX2_readSign 172 = .ok (.aload_n 0, 1) := by decide +kernel
theorem dX2_readSign_173 : decode cX2_readSign 173 = .ok (.getfield 27, 3) := by decide +kernel
theorem dX2_readSign_176 : decode cX2_readSign 176 = .ok (.iconst 1, 1) := by decide +kernel
theorem dX2_readSign_177 : decode cX2_readSign 177 = .ok (.iadd, 1) := by decide +kernel
theorem dX2_readSign_178 : decode cX2_readSign 178 = .ok (.iaload, 1) := by decide +kernel
theorem dX2_readSign_179 : decode cX2_readSign 179 = .ok (.ior, 1) := by decide +kernel
theorem dX2_readSign_180 : decode cX2_readSign 180 = .ok (.invokevirtual 42, 3) := by decide +kernel
theorem dX2_readSign_183 : decode cX2_readSign 183 = .ok (.goto 163, 3) := by decide +kernel
theorem dX2_readSign_186 : decode cX2_readSign 186 = .ok (.aload_n 0, 1) := by decide +kernel
theorem dX2_readSign_187 : decode cX2_readSign 187 = .ok (.getfield 9, 3) := by decide +kernel
theorem dX2_readSign_190 : decode cX2_readSign 190 = .ok (.aload_n 0, 1) := by decide +kernel
theorem dX2_readSign_191 : decode cX2_readSign 191 = .ok (.getfield 27, 3) := by decide +kernel
theorem dX2_readSign_194 : decode cX2_readSign 194 = .ok (.dup2, 1) := by decide +kernel
theorem dX2_readSign_195 : decode cX2_readSign 195 = .ok (.iaload, 1) := by decide +kernel
theorem dX2_readSign_196 : decode cX2_readSign 196 = .ok (.aload_n 0, 1) := by decide +kernel
theorem dX2_readSign_197 : decode cX2_readSign 197 = .ok (.getfield 15, 3) := by decide +kernel
theorem dX2_readSign_200 : decode cX2_readSign 200 = .ok (.aload_n 0, 1) := by decide +kernel
theorem dX2_readSign_201 : decode cX2_readSign 201 = .ok (.getfield 27, 3) := by decide +kernel
theorem dX2_readSign_204 : decode cX2_readSign 204 = .ok (.iaload, 1) := by decide +kernel
theorem dX2_readSign_205 : decode cX2_readSign 205 = .ok (.ior, 1) := by decide +kernel
theorem dX2_readSign_206 : decode cX2_readSign 206 = .ok (.iastore, 1) := by decide +kernel
theorem dX2_readSign_207 : decode cX2_readSign 207 = .ok (.aload_n 0, 1) := by decide +kernel
theorem dX2_readSign_208 : decode cX2_readSign 208 = .ok (.getfield 15, 3) := by decide +kernel
theorem dX2_readSign_211 : decode cX2_readSign 211 = .ok (.aload_n 0, 1) := by decide +kernel
theorem dX2_readSign_212 : decode cX2_readSign 212 = .ok (.getfield 27, 3) := by decide +kernel
theorem dX2_readSign_215 : decode cX2_readSign 215 = .ok (.ldc 41, 2) := by decide +kernel
theorem dX2_readSign_217 : decode cX2_readSign 217 = .ok (.iastore, 1) := by decide +kernel
theorem dX2_readSign_218 : decode cX2_readSign 218 = .ok (.goto 128, 3) := by decide +kernel
theorem dX2_readSign_221 : decode cX2_readSign 221 = .ok (.aload_n 0, 1) := by decide +kernel
theorem dX2_readSign_222 : decode cX2_readSign 222 = .ok (.ldc 41, 2) := by decide +kernel
theorem dX2_readSign_224 : decode cX2_readSign 224 = .ok (.invokevirtual 42, 3) := by decide +kernel
theorem dX2_readSign_227 : decode cX2_readSign 227 = .ok (.goto 119, 3) := by decide +kernel
theorem dX2_readSign_230 : decode cX2_readSign 230 = .ok (.aload_n 0, 1) := by decide +kernel
theorem dX2_readSign_231 : decode cX2_readSign 231 = .ok (.aload_n 3, 1) := by decide +kernel
theorem dX2_readSign_232 : decode cX2_readSign 232 = .ok (.iconst 0, 1) := by decide +kernel
theorem dX2_readSign_233 : decode cX2_readSign 233 = .ok (.aload_n 1, 1) := by decide +kernel
theorem dX2_readSign_234 : decode cX2_readSign 234 = .ok (.iload_n 2, 1) := by decide +kernel
theorem dX2_readSign_235 : decode cX2_readSign 235 = .ok (.iconst 1, 1) := by decide +kernel
theorem dX2_readSign_236 : decode cX2_readSign 236 = .ok (.iadd, 1) := by decide +kernel
theorem dX2_readSign_237 : decode cX2_readSign 237 = .ok (.invokevirtual 37, 3) := by decide +kernel
theorem dX2_readSign_240 : decode cX2_readSign 240 = .ok (.aload_n 1, 1) := by decide +kernel
theorem dX2_readSign_241 : decode cX2_readSign 241 = .ok (.iload_n 2, 1) := by decide +kernel
theorem dX2_readSign_242 : decode cX2_readSign 242 = .ok (.iconst 2, 1) := by decide +kernel
theorem dX2_readSign_243 : decode cX2_readSign 243 = .ok (.iadd, 1) := by decide +kernel
theorem dX2_readSign_244 : decode cX2_readSign 244 = .ok (.invokevirtual 46, 3) := by decide +kernel
theorem dX2_readSign_247 : decode cX2_readSign 247 = .ok (.invokevirtual 49, 3) := by decide +kernel
theorem dX2_readSign_250 : decode cX2_readSign 250 = .ok (.invokevirtual 42, 3) := by decide +kernel
theorem dX2_readSign_253 : decode cX2_readSign 253 = .ok (.goto 93, 3) := by decide +kernel
theorem dX2_readSign_256 : decode cX2_readSign 256 = .ok (.aload_n 0, 1) := by decide +kernel
theorem dX2_readSign_257 : decode cX2_readSign 257 = .ok (.aload_n 3, 1) := by decide +kernel
theorem dX2_readSign_258 : decode cX2_readSign 258 = .ok (.iconst 1, 1) := by decide +kernel
theorem dX2_readSign_259 : decode cX2_readSign 259 = .ok (.aload_n 1, 1) := by decide +kernel
theorem dX2_readSign_260 : decode cX2_readSign 260 = .ok (.iload_n 2, 1) := by decide +kernel
theorem dX2_readSign_261 : decode cX2_readSign 261 = .ok (.iconst 1, 1) := by decide +kernel
theorem dX2_readSign_262 : decode cX2_readSign 262 = .ok (.iadd, 1) := by decide +kernel
theorem dX2_readSign_263 : decode cX2_readSign 263 = .ok (.invokevirtual 37, 3) := by decide +kernel
theorem dX2_readSign_266 : decode cX2_readSign 266 = .ok (.aload_n 1, 1) := by decide +kernel
theorem dX2_readSign_267 : decode cX2_readSign 267 = .ok (.iload_n 2, 1) := by decide +kernel
theorem dX2_readSign_268 : decode cX2_readSign 268 = .ok (.iconst 2, 1) := by decide +kernel
theorem dX2_readSign_269 : decode cX2_readSign 269 = .ok (.iadd, 1) := by decide +kernel
theorem dX2_readSign_270 : decode cX2_readSign 270 = .ok (.invokevirtual 46, 3) := by decide +kernel
theorem dX2_readSign_273 : decode cX2_readSign 273 = .ok (.invokevirtual 49, 3) := by decide +kernel
theorem dX2_readSign_276 : decode cX2_readSign 276 = .ok (.invokevirtual 42, 3) := by decide +kernel
theorem dX2_readSign_279 : decode cX2_readSign 279 = .ok (.goto 67, 3) := by decide +kernel
theorem dX2_readSign_282 : decode cX2_readSign 282 = .ok (.aload_n 0, 1) := by decide +kernel
theorem dX2_readSign_283 : decode cX2_readSign 283 = .ok (.aload_n 3, 1) := by decide +kernel
theorem dX2_readSign_284 : decode cX2_readSign 284 = .ok (.iconst 2, 1) := by decide +kernel
theorem dX2_readSign_285 : decode cX2_readSign 285 = .ok (.aload_n 1, 1) := by decide +kernel
theorem dX2_readSign_286 : decode cX2_readSign 286 = .ok (.iload_n 2, 1) := by decide +kernel
theorem dX2_readSign_287 : decode cX2_readSign 287 = .ok (.iconst 1, 1) := by decide +kernel
theorem dX2_readSign_288 : decode cX2_readSign 288 = .ok (.iadd, 1) := by decide +kernel
theorem dX2_readSign_289 : decode cX2_readSign 289 = .ok (.invokevirtual 37, 3) := by decide +kernel
theorem dX2_readSign_292 : decode cX2_readSign 292 = .ok (.aload_n 1, 1) := by decide +kernel
theorem dX2_readSign_293 : decode cX2_readSign 293 = .ok (.iload_n 2, 1) := by decide +kernel
theorem dX2_readSign_294 : decode cX2_readSign 294 = .ok (.iconst 2, 1) := by decide +kernel
theorem dX2_readSign_295 : decode cX2_readSign 295 = .ok (.iadd, 1) := by decide +kernel
theorem dX2_readSign_296 : decode cX2_readSign 296 = .ok (.invokevirtual 46, 3) := by decide +kernel
theorem dX2_readSign_299 : decode cX2_readSign 299 = .ok (.invokevirtual 49, 3) := by decide +kernel
theorem dX2_readSign_302 : decode cX2_readSign 302 = .ok (.invokevirtual 42, 3) := by decide +kernel
theorem dX2_readSign_305 : decode cX2_readSign 305 = .ok (.goto 41, 3) := by decide +kernel
theorem dX2_readSign_308 : decode cX2_readSign 308 = .ok (.aload_n 0, 1) := by decide +kernel
theorem dX2_readSign_309 : decode cX2_readSign 309 = .ok (.aload_n 3, 1) := by decide +kernel
theorem dX2_readSign_310 : decode cX2_readSign 310 = .ok (.aload_n 1, 1) := by decide +kernel
theorem dX2_readSign_311 : decode cX2_readSign 311 = .ok (.iload_n 2, 1) := by decide +kernel
theorem dX2_readSign_312 : decode cX2_readSign 312 = .ok (.iconst 1, 1) := by decide +kernel
theorem dX2_readSign_313 : decode cX2_readSign 313 = .ok (.iadd, 1) := by decide +kernel
theorem dX2_readSign_314 : decode cX2_readSign 314 = .ok (.invokevirtual 55, 3) := by decide +kernel
theorem dX2_readSign_317 : decode cX2_readSign 317 = .ok (.invokevirtual 58, 3) := by decide +kernel
theorem dX2_readSign_320 : decode cX2_readSign 320 = .ok (.invokevirtual 42, 3) := by decide +kernel
theorem dX2_readSign_323 : decode cX2_readSign 323 = .ok (.goto 23, 3) := by decide +kernel
theorem dX2_readSign_326 : decode cX2_readSign 326 = .ok (.aload_n 0, 1) := by decide +kernel
theorem dX2_readSign_327 : decode cX2_readSign 327 = .ok (.aload_n 0, 1) := by decide +kernel
theorem dX2_readSign_328 : decode cX2_readSign 328 = .ok (.aload_n 1, 1) := by decide +kernel
theorem dX2_readSign_329 : decode cX2_readSign 329 = .ok (.iload_n 2, 1) := by decide +kernel
theorem dX2_readSign_330 : decode cX2_readSign 330 = .ok (.iconst 1, 1) := by decide +kernel
theorem dX2_readSign_331 : decode cX2_readSign 331 = .ok (.iadd, 1) := by decide +kernel
theorem dX2_readSign_332 : decode cX2_readSign 332 = .ok (.invokevirtual 55, 3) := by decide +kernel
theorem dX2_readSign_335 : decode cX2_readSign 335 = .ok (.aload 4, 2) := by decide +kernel
theorem dX2_readSign_337 : decode cX2_readSign 337 = .ok (.invokevirtual 61, 3) := by decide +kernel
theorem dX2_readSign_340 : decode cX2_readSign 340 = .ok (.invokevirtual 42, 3) := by decide +kernel
theorem dX2_readSign_343 : decode cX2_readSign 343 = .ok (.goto 3, 3) := by decide +kernel
theorem dX2_readSign_346 : decode cX2_readSign 346 = .ok (.return_, 1) := by decide +kernel
theorem dX2_beginExpression_0 : decode cX2_beginExpression 0 = .ok (.aload_n 0, 1) := by decide +kernel
theorem dX2_beginExpression_1 : decode cX2_beginExpression 1 = .ok (.getfield 9, 3) := by decide +kernel
theorem dX2_beginExpression_4 : decode cX2_beginExpression 4 = .ok (.aload_n 0, 1) := by decide +kernel
theorem dX2_beginExpression_5 : decode cX2_beginExpression 5 = .ok (.getfield 27, 3) := by decide +kernel
theorem dX2_beginExpression_8 : decode cX2_beginExpression 8 = .ok (.iconst 0, 1) := by decide +kernel
theorem dX2_beginExpression_9 : decode cX2_beginExpression 9 = .ok (.iastore, 1) := by decide +kernel
theorem dX2_beginExpression_10 : decode cX2_beginExpression 10 = .ok (.aload_n 0, 1) := by decide +kernel
theorem dX2_beginExpression_11 : decode cX2_beginExpression 11 = .ok (.getfield 15, 3) := by decide +kernel
theorem dX2_beginExpression_14 : decode cX2_beginExpression 14 = .ok (.aload_n 0, 1) := by decide +kernel
theorem dX2_beginExpression_15 : decode cX2_beginExpression 15 = .ok (.getfield 27, 3) := by decide +kernel
theorem dX2_beginExpression_18 : decode cX2_beginExpression 18 = .ok (.ldc 41, 2) := by decide +kernel
theorem dX2_beginExpression_20 : decode cX2_beginExpression 20 = .ok (.iastore, 1) := by decide +kernel
theorem dX2_beginExpression_21 : decode cX2_beginExpression 21 = .ok (.aload_n 0, 1) := by decide +kernel
theorem dX2_beginExpression_22 : decode cX2_beginExpression 22 = .ok (.getfield 18, 3) := by decide +kernel
theorem dX2_beginExpression_25 : decode cX2_beginExpression 25 = .ok (.aload_n 0, 1) := by decide +kernel
theorem dX2_beginExpression_26 : decode cX2_beginExpression 26 = .ok (.getfield 27, 3) := by decide +kernel
theorem dX2_beginExpression_29 : decode cX2_beginExpression 29 = .ok (.iconst 0, 1) := by decide +kernel
theorem dX2_beginExpression_30 : decode cX2_beginExpression 30 = .ok (.iastore, 1) := by decide +kernel
theorem dX2_beginExpression_31 : decode cX2_beginExpression 31 = .ok (.return_, 1) := by decide +kernel
theorem dX2_addFactor_0 : decode cX2_addFactor 0 = .ok (.aload_n 0, 1) := by decide +kernel
theorem dX2_addFactor_1 : decode cX2_addFactor 1 = .ok (.getfield 15, 3) := by decide +kernel
theorem dX2_addFactor_4 : decode cX2_addFactor 4 = .ok (.aload_n 0, 1) := by decide +kernel
theorem dX2_addFactor_5 : decode cX2_addFactor 5 = .ok (.getfield 27, 3) := by decide +kernel
theorem dX2_addFactor_8 : decode cX2_addFactor 8 = .ok (.dup2, 1) := by decide +kernel
theorem dX2_addFactor_9 : decode cX2_addFactor 9 = .ok (.iaload, 1) := by decide +kernel
theorem dX2_addFactor_10 : decode cX2_addFactor 10 = .ok (.iload_n 1, 1) := by decide +kernel
theorem dX2_addFactor_11 : decode cX2_addFactor 11 = .ok (.aload_n 0, 1) := by decide +kernel
theorem dX2_addFactor_12 : decode cX2_addFactor 12 = .ok (.getfield 18, 3) := by decide +kernel
theorem dX2_addFactor_15 : decode cX2_addFactor 15 = .ok (.aload_n 0, 1) := by decide +kernel
theorem dX2_addFactor_16 : decode cX2_addFactor 16 = .ok (.getfield 27, 3) := by decide +kernel
theorem dX2_addFactor_19 : decode cX2_addFactor 19 = .ok (.iaload, 1) := by decide +kernel
theorem dX2_addFactor_20 : decode cX2_addFactor 20 = .ok (.ixor, 1) := by decide +kernel
theorem dX2_addFactor_21 : decode cX2_addFactor 21 = .ok (.iand, 1) := by decide +kernel
theorem dX2_addFactor_22 : decode cX2_addFactor 22 = .ok (.iastore, 1) := by decide +kernel
theorem dX2_addFactor_23 : decode cX2_addFactor 23 = .ok (.aload_n 0, 1) := by decide +kernel
theorem dX2_addFactor_24 : decode cX2_addFactor 24 = .ok (.getfield 18, 3) := by decide +kernel
theorem dX2_addFactor_27 : decode cX2_addFactor 27 = .ok (.aload_n 0, 1) := by decide +kernel
theorem dX2_addFactor_28 : decode cX2_addFactor 28 = .ok (.getfield 27, 3) := by decide +kernel
theorem dX2_addFactor_31 : decode cX2_addFactor 31 = .ok (.iconst 0, 1) := by decide +kernel
theorem dX2_addFactor_32 : decode cX2_addFactor 32 = .ok (.iastore, 1) := by decide +kernel
theorem dX2_addFactor_33 : decode cX2_addFactor 33 = .ok (.return_, 1) := by decide +kernel
theorem dX2_whoIsIn_0 : decode cX2_whoIsIn 0 = .ok (.iload_n 1, 1) := by decide +kernel
theorem dX2_whoIsIn_1 : decode cX2_whoIsIn 1 = .ok (.ifCond .lt 15, 3) := by decide +kernel
theorem dX2_whoIsIn_4 : decode cX2_whoIsIn 4 = .ok (.iload_n 1, 1) := by decide +kernel
theorem dX2_whoIsIn_5 : decode cX2_whoIsIn 5 = .ok (.bipush 6, 2) := by decide +kernel
theorem dX2_whoIsIn_7 : decode cX2_whoIsIn 7 = .ok (.if_icmp .ge 9, 3) := by decide +kernel
theorem dX2_whoIsIn_10 : decode cX2_whoIsIn 10 = .ok (.aload_n 2, 1) := by decide +kernel
theorem dX2_whoIsIn_11 : decode cX2_whoIsIn 11 = .ok (.iload_n 1, 1) := by decide +kernel
theorem dX2_whoIsIn_12 : decode cX2_whoIsIn 12 = .ok (.iaload, 1) := by decide +kernel
theorem dX2_whoIsIn_13 : decode cX2_whoIsIn 13 = .ok (.goto 4, 3) := by decide +kernel
theorem dX2_whoIsIn_16 : decode cX2_whoIsIn 16 = .ok (.iconst 0, 1) := by decide +kernel
theorem dX2_whoIsIn_17 : decode cX2_whoIsIn 17 = .ok (.ireturn, 1) := by decide +kernel
theorem dX3_init_0 : decode cX3_init 0 = .ok (.aload_n 0, 1) := by decide +kernel
theorem dX3_init_1 : decode cX3_init 1 = .ok (.invokespecial 3, 3) := by decide +kernel
theorem dX3_init_4 : decode cX3_init 4 = .ok (.aload_n 0, 1) := by decide +kernel
theorem dX3_init_5 : decode cX3_init 5 = .ok (.iconst 5, 1) := by decide +kernel
theorem dX3_init_6 : decode cX3_init 6 = .ok (.newarray .int, 2) := by decide +kernel
theorem dX3_init_8 : decode cX3_init 8 = .ok (.putfield 9, 3) := by decide +kernel
theorem dX3_init_11 : decode cX3_init 11 = .ok (.aload_n 0, 1) := by decide +kernel
theorem dX3_init_12 : decode cX3_init 12 = .ok (.iconst 5, 1) := by decide +kernel
theorem dX3_init_13 : decode cX3_init 13 = .ok (.newarray .int, 2) := by decide +kernel
theorem dX3_init_15 : decode cX3_init 15 = .ok (.putfield 15, 3) := by decide +kernel
theorem dX3_init_18 : decode cX3_init 18 = .ok (.return_, 1) := by decide +kernel
theorem dX3_insert_0 : decode cX3_insert 0 = .ok (.iload_n 1, 1) := by decide +kernel
theorem dX3_insert_1 : decode cX3_insert 1 = .ok (.ifCond .lt 19, 3) := by decide +kernel
theorem dX3_insert_4 : decode cX3_insert 4 = .ok (.iload_n 1, 1) := by decide +kernel
theorem dX3_insert_5 : decode cX3_insert 5 = .ok (.aload_n 0, 1) := by decide +kernel
theorem dX3_insert_6 : decode cX3_insert 6 = .ok (.getfield 18, 3) := by decide +kernel
theorem dX3_insert_9 : decode cX3_insert 9 = .ok (.if_icmp .gt 11, 3) := by decide +kernel
theorem dX3_insert_12 : decode cX3_insert 12 = .ok (.aload_n 0, 1) := by decide +kernel
theorem dX3_insert_13 : decode cX3_insert 13 = .ok (.getfield 18, 3) := by decide +kernel
theorem dX3_insert_16 : decode cX3_insert 16 = .ok (.iconst 5, 1) := by decide +kernel
theorem dX3_insert_17 : decode cX3_insert 17 = .ok (.if_icmp .lt 4, 3) := by decide +kernel
theorem dX3_insert_20 : decode cX3_insert 20 = .ok (.return_, 1) := by decide +kernel
theorem dX3_insert_21 : decode cX3_insert 21 = .ok (.aload_n 0, 1) := by decide +kernel
theorem dX3_insert_22 : decode cX3_insert 22 = .ok (.getfield 18, 3) := by decide +kernel
theorem dX3_insert_25 : decode cX3_insert 25 = .ok (.istore 4, 2) := by decide +kernel
theorem dX3_insert_27 : decode cX3_insert 27 = .ok (.iload 4, 2) := by decide +kernel
theorem dX3_insert_29 : decode cX3_insert 29 = .ok (.iload_n 1, 1) := by decide +kernel
theorem dX3_insert_30 : decode cX3_insert 30 = .ok (.if_icmp .le 41, 3) := by decide +kernel
theorem dX3_insert_33 : decode cX3_insert 33 = .ok (.aload_n 0, 1) := by decide +kernel
theorem dX3_insert_34 : decode cX3_insert 34 = .ok (.getfield 9, 3) := by decide +kernel
theorem dX3_insert_37 : decode cX3_insert 37 = .ok (.iload 4, 2) := by decide +kernel
theorem dX3_insert_39 : decode cX3_insert 39 = .ok (.aload_n 0, 1) := by decide +kernel
theorem dX3_insert_40 : decode cX3_insert 40 = .ok (.getfield 9, 3) := by decide +kernel
theorem dX3_insert_43 : decode cX3_insert 43 = .ok (.iload 4, 2) := by decide +kernel
theorem dX3_insert_45 : decode cX3_insert 45 = .ok (.iconst 1, 1) := by decide +kernel
theorem dX3_insert_46 : decode cX3_insert 46 = .ok (.isub, 1) := by decide +kernel
theorem dX3_insert_47 : decode cX3_insert 47 = .ok (.iaload, 1) := by decide +kernel
theorem dX3_insert_48 : decode cX3_insert 48 = .ok (.iastore, 1) := by decide +kernel
theorem dX3_insert_49 : decode cX3_insert 49 = .ok (.aload_n 0, 1) := by decide +kernel
theorem dX3_insert_50 : decode cX3_insert 50 = .ok (.getfield 15, 3) := by decide +kernel
theorem dX3_insert_53 : decode cX3_insert 53 = .ok (.iload 4, 2) := by decide +kernel
theorem dX3_insert_55 : decode cX3_insert 55 = .ok (.aload_n 0, 1) := by decide +kernel
theorem dX3_insert_56 : decode cX3_insert 56 = .ok (.getfield 15, 3) := by decide +kernel
theorem dX3_insert_59 : decode cX3_insert 59 = .ok (.iload 4, 2) := by decide +kernel
theorem dX3_insert_61 : decode cX3_insert 61 = .ok (.iconst 1, 1) := by decide +kernel
theorem dX3_insert_62 : decode cX3_insert 62 = .ok (.isub, 1) := by decide +kernel
theorem dX3_insert_63 : decode cX3_insert 63 = .ok (.iaload, 1) := by decide +kernel
theorem dX3_insert_64 : decode cX3_insert 64 = .ok (.iastore, 1) := by decide +kernel
theorem dX3_insert_65 : decode cX3_insert 65 = .ok (.iinc 4 (-1), 3) := by decide +kernel
theorem dX3_insert_68 : decode cX3_insert 68 = .ok (.goto (-41), 3) := by decide +kernel
theorem dX3_insert_71 : decode cX3_insert 71 = .ok (.aload_n 0, 1) := by decide +kernel
theorem dX3_insert_72 : decode cX3_insert 72 = .ok (.getfield 9, 3) := by decide +kernel
theorem dX3_insert_75 : decode cX3_insert 75 = .ok (.iload_n 1, 1) := by decide +kernel
theorem dX3_insert_76 : decode cX3_insert 76 = .ok (.iload_n 2, 1) := by decide +kernel
theorem dX3_insert_77 : decode cX3_insert 77 = .ok (.iastore, 1) := by decide +kernel
theorem dX3_insert_78 : decode cX3_insert 78 = .ok (.aload_n 0, 1) := by decide +kernel
theorem dX3_insert_79 : decode cX3_insert 79 = .ok (.getfield 15, 3) := by decide +kernel
theorem dX3_insert_82 : decode cX3_insert 82 = .ok (.iload_n 1, 1) := by decide +kernel
theorem dX3_insert_83 : decode cX3_insert 83 = .ok (.iload_n 3, 1) := by decide +kernel
theorem dX3_insert_84 : decode cX3_insert 84 = .ok (.iastore, 1) := by decide +kernel
theorem dX3_insert_85 : decode cX3_insert 85 = .ok (.aload_n 0, 1) := by decide +kernel
theorem dX3_insert_86 : decode cX3_insert 86 = .ok (.dup, 1) := by decide +kernel
theorem dX3_insert_87 : decode cX3_insert 87 = .ok (.getfield 18, 3) := by decide +kernel
theorem dX3_insert_90 : decode cX3_insert 90 = .ok (.iconst 1, 1) := by decide +kernel
theorem dX3_insert_91 : decode cX3_insert 91 = .ok (.iadd, 1) := by decide +kernel
theorem dX3_insert_92 : decode cX3_insert 92 = .ok (.putfield 18, 3) := by decide +kernel
theorem dX3_insert_95 : decode cX3_insert 95 = .ok (.return_, 1) := by decide +kernel
theorem dX3_delete_0 : decode cX3_delete 0 = .ok (.iload_n 1, 1) := by decide +kernel
theorem dX3_delete_1 : decode cX3_delete 1 = .ok (.ifCond .lt 11, 3) := by decide +kernel
theorem dX3_delete_4 : decode cX3_delete 4 = .ok (.iload_n 1, 1) := by decide +kernel
theorem dX3_delete_5 : decode cX3_delete 5 = .ok (.aload_n 0, 1) := by decide +kernel
theorem dX3_delete_6 : decode cX3_delete 6 = .ok (.getfield 18, 3) := by decide +kernel
theorem dX3_delete_9 : decode cX3_delete 9 = .ok (.if_icmp .lt 4, 3) := by decide +kernel
theorem dX3_delete_12 : decode cX3_delete 12 = .ok (.return_, 1) := by decide +kernel
theorem dX3_delete_13 : decode cX3_delete 13 = .ok (.iload_n 1, 1) := by decide +kernel
theorem dX3_delete_14 : decode cX3_delete 14 = .ok (.istore_n 2, 1) := by decide +kernel
theorem dX3_delete_15 : decode cX3_delete 15 = .ok (.iload_n 2, 1) := by decide +kernel
theorem dX3_delete_16 : decode cX3_delete 16 = .ok (.aload_n 0, 1) := by decide +kernel
theorem dX3_delete_17 : decode cX3_delete 17 = .ok (.getfield 18, 3) := by decide +kernel
theorem dX3_delete_20 : decode cX3_delete 20 = .ok (.iconst 1, 1) := by decide +kernel
theorem dX3_delete_21 : decode cX3_delete 21 = .ok (.isub, 1) := by decide +kernel
theorem dX3_delete_22 : decode cX3_delete 22 = .ok (.if_icmp .ge 37, 3) := by decide +kernel
theorem dX3_delete_25 : decode cX3_delete 25 = .ok (.aload_n 0, 1) := by decide +kernel
theorem dX3_delete_26 : decode cX3_delete 26 = .ok (.getfield 9, 3) := by decide +kernel
theorem dX3_delete_29 : decode cX3_delete 29 = .ok (.iload_n 2, 1) := by decide +kernel
theorem dX3_delete_30 : decode cX3_delete 30 = .ok (.aload_n 0, 1) := by decide +kernel
theorem dX3_delete_31 : decode cX3_delete 31 = .ok (.getfield 9, 3) := by decide +kernel
theorem dX3_delete_34 : decode cX3_delete 34 = .ok (.iload_n 2, 1) := by decide +kernel
theorem dX3_delete_35 : decode cX3_delete 35 = .ok (.iconst 1, 1) := by decide +kernel
theorem dX3_delete_36 : decode cX3_delete 36 = .ok (.iadd, 1) := by decide +kernel
theorem dX3_delete_37 : decode cX3_delete 37 = .ok (.iaload, 1) := by decide +kernel
theorem dX3_delete_38 : decode cX3_delete 38 = .ok (.iastore, 1) := by decide +kernel
theorem dX3_delete_39 : decode cX3_delete 39 = .ok (.aload_n 0, 1) := by decide +kernel
theorem dX3_delete_40 : decode cX3_delete 40 = .ok (.getfield 15, 3) := by decide +kernel
theorem dX3_delete_43 : decode cX3_delete 43 = .ok (.iload_n 2, 1) := by decide +kernel
theorem dX3_delete_44 : decode cX3_delete 44 = .ok (.aload_n 0, 1) := by decide +kernel
theorem dX3_delete_45 : decode cX3_delete 45 = .ok (.getfield 15, 3) := by decide +kernel
theorem dX3_delete_48 : decode cX3_delete 48 = .ok (.iload_n 2, 1) := by decide +kernel
theorem dX3_delete_49 : decode cX3_delete 49 = .ok (.iconst 1, 1) := by decide +kernel
theorem dX3_delete_50 : decode cX3_delete 50 = .ok (.iadd, 1) := by decide +kernel
theorem dX3_delete_51 : decode cX3_delete 51 = .ok (.iaload, 1) := by decide +kernel
theorem dX3_delete_52 : decode cX3_delete 52 = .ok (.iastore, 1) := by decide +kernel
theorem dX3_delete_53 : decode cX3_delete 53 = .ok (.iinc 2 1, 3) := by decide +kernel
theorem dX3_delete_56 : decode cX3_delete 56 = .ok (.goto (-41), 3) := by decide +kernel
theorem dX3_delete_59 : decode cX3_delete 59 = .ok (.aload_n 0, 1) := by decide +kernel
theorem dX3_delete_60 : decode cX3_delete 60 = .ok (.dup, 1) := by decide +kernel
theorem dX3_delete_61 : decode cX3_delete 61 = .ok (.getfield 18, 3) := by decide +kernel
theorem dX3_delete_64 : decode cX3_delete 64 = .ok (.iconst 1, 1) := by decide +kernel
theorem dX3_delete_65 : decode cX3_delete 65 = .ok (.isub, 1) := by decide +kernel
theorem dX3_delete_66 : decode cX3_delete 66 = .ok (.putfield 18, 3) := by decide +kernel
theorem dX3_delete_69 : decode cX3_delete 69 = .ok (.return_, 1) := by decide +kernel
theorem dX3_outcomeOf_0 : decode cX3_outcomeOf 0 = .ok (.iload_n 1, 1) := by decide +kernel
theorem dX3_outcomeOf_1 : decode cX3_outcomeOf 1 = .ok (.ifCond .lt 20, 3) := by decide +kernel
theorem dX3_outcomeOf_4 : decode cX3_outcomeOf 4 = .ok (.iload_n 1, 1) := by decide +kernel
theorem dX3_outcomeOf_5 : decode cX3_outcomeOf 5 = .ok (.aload_n 0, 1) := by decide +kernel
theorem dX3_outcomeOf_6 : decode cX3_outcomeOf 6 = .ok (.getfield 18, 3) := by decide +kernel
theorem dX3_outcomeOf_9 : decode cX3_outcomeOf 9 = .ok (.if_icmp .ge 12, 3) := by decide +kernel
theorem dX3_outcomeOf_12 : decode cX3_outcomeOf 12 = .ok (.aload_n 0, 1) := by decide +kernel
theorem dX3_outcomeOf_13 : decode cX3_outcomeOf 13 = .ok (.getfield 15, 3) := by decide +kernel
theorem dX3_outcomeOf_16 : decode cX3_outcomeOf 16 = .ok (.iload_n 1, 1) := by decide +kernel
theorem dX3_outcomeOf_17 : decode cX3_outcomeOf 17 = .ok (.iaload, 1) := by decide +kernel
theorem dX3_outcomeOf_18 : decode cX3_outcomeOf 18 = .ok (.goto 4, 3) := by decide +kernel
theorem dX3_outcomeOf_21 : decode cX3_outcomeOf 21 = .ok (.iconst (-1), 1) := by decide +kernel
theorem dX3_outcomeOf_22 : decode cX3_outcomeOf 22 = .ok (.ireturn, 1) := by decide +kernel
theorem dX3_trialOf_0 : decode cX3_trialOf 0 = .ok (.aload_n 0, 1) := by decide +kernel
theorem dX3_trialOf_1 : decode cX3_trialOf 1 = .ok (.iload_n 1, 1) := by decide +kernel
theorem dX3_trialOf_2 : decode cX3_trialOf 2 = .ok (.invokevirtual 22, 3) := by decide +kernel
theorem dX3_trialOf_5 : decode cX3_trialOf 5 = .ok (.istore_n 2, 1) := by decide +kernel
theorem dX3_trialOf_6 : decode cX3_trialOf 6 = .ok (.iload_n 2, 1) := by decide +kernel
theorem dX3_trialOf_7 : decode cX3_trialOf 7 = .ok (.iconst 4, 1) := by decide +kernel
theorem dX3_trialOf_8 : decode cX3_trialOf 8 = .ok (.if_icmp .lt 9, 3) := by decide +kernel
theorem dX3_trialOf_11 : decode cX3_trialOf 11 = .ok (.iload_n 2, 1) := by decide +kernel
theorem dX3_trialOf_12 : decode cX3_trialOf 12 = .ok (.iconst 4, 1) := by decide +kernel
theorem dX3_trialOf_13 : decode cX3_trialOf 13 = .ok (.isub, 1) := by decide +kernel
theorem dX3_trialOf_14 : decode cX3_trialOf 14 = .ok (.goto 4, 3) := by decide +kernel
theorem dX3_trialOf_17 : decode cX3_trialOf 17 = .ok (.iconst (-1), 1) := by decide +kernel
theorem dX3_trialOf_18 : decode cX3_trialOf 18 = .ok (.ireturn, 1) := by decide +kernel
theorem dX3_decidingRule_0 : decode cX3_decidingRule 0 = .ok (.iconst 0, 1) := by decide +kernel
theorem dX3_decidingRule_1 : decode cX3_decidingRule 1 = .ok (.istore_n 3, 1) := by decide +kernel
theorem dX3_decidingRule_2 : decode cX3_decidingRule 2 = .ok (.iload_n 3, 1) := by decide +kernel
theorem dX3_decidingRule_3 : decode cX3_decidingRule 3 = .ok (.aload_n 0, 1) := by decide +kernel
theorem dX3_decidingRule_4 : decode cX3_decidingRule 4 = .ok (.getfield 18, 3) := by decide +kernel
theorem dX3_decidingRule_7 : decode cX3_decidingRule 7 = .ok (.if_icmp .ge 26, 3) := by decide +kernel
theorem dX3_decidingRule_10 : decode cX3_decidingRule 10 = .ok (.aload_n 2, 1) := by decide +kernel
theorem dX3_decidingRule_11 : decode cX3_decidingRule 11 = .ok (.aload_n 0, 1) := by decide +kernel
theorem dX3_decidingRule_12 : decode cX3_decidingRule 12 = .ok (.getfield 9, 3) := by decide +kernel
theorem dX3_decidingRule_15 : decode cX3_decidingRule 15 = .ok (.iload_n 3, 1) := by decide +kernel
theorem dX3_decidingRule_16 : decode cX3_decidingRule 16 = .ok (.iaload, 1) := by decide +kernel
theorem dX3_decidingRule_17 : decode cX3_decidingRule 17 = .ok (.iaload, 1) := by decide +kernel
theorem dX3_decidingRule_18 : decode cX3_decidingRule 18 = .ok (.iload_n 1, 1) := by decide +kernel
theorem dX3_decidingRule_19 : decode cX3_decidingRule 19 = .ok (.invokestatic 26, 3) := by decide +kernel
theorem dX3_decidingRule_22 : decode cX3_decidingRule 22 = .ok (.ifCond .eq 5, 3) := by decide +kernel
theorem dX3_decidingRule_25 : decode cX3_decidingRule 25 = .ok (.iload_n 3, 1) := by decide +kernel
theorem dX3_decidingRule_26 : decode cX3_decidingRule 26 = .ok (.ireturn, 1) := by decide +kernel
theorem dX3_decidingRule_27 : decode cX3_decidingRule 27 = .ok (.iinc 3 1, 3) := by decide +kernel
theorem dX3_decidingRule_30 : decode cX3_decidingRule 30 = .ok (.goto (-28), 3) := by decide +kernel
theorem dX3_decidingRule_33 : decode cX3_decidingRule 33 = .ok (.iconst (-1), 1) := by decide +kernel
theorem dX3_decidingRule_34 : decode cX3_decidingRule 34 = .ok (.ireturn, 1) := by decide +kernel
theorem dX4_init_0 : decode cX4_init 0 = .ok (.aload_n 0, 1) := by decide +kernel
theorem dX4_init_1 : decode cX4_init 1 = .ok (.invokespecial 1, 3) := by decide +kernel
theorem dX4_init_4 : decode cX4_init 4 = .ok (.aload_n 0, 1) := by decide +kernel
theorem dX4_init_5 : decode cX4_init 5 = .ok (.iload_n 1, 1) := by decide +kernel
theorem dX4_init_6 : decode cX4_init 6 = .ok (.newarray .int, 2) := by decide +kernel
theorem dX4_init_8 : decode cX4_init 8 = .ok (.putfield 7, 3) := by decide +kernel
theorem dX4_init_11 : decode cX4_init 11 = .ok (.aload_n 0, 1) := by decide +kernel
theorem dX4_init_12 : decode cX4_init 12 = .ok (.iload_n 1, 1) := by decide +kernel
theorem dX4_init_13 : decode cX4_init 13 = .ok (.newarray .int, 2) := by decide +kernel
theorem dX4_init_15 : decode cX4_init 15 = .ok (.putfield 13, 3) := by decide +kernel
theorem dX4_init_18 : decode cX4_init 18 = .ok (.aload_n 0, 1) := by decide +kernel
theorem dX4_init_19 : decode cX4_init 19 = .ok (.invokevirtual 16, 3) := by decide +kernel
theorem dX4_init_22 : decode cX4_init 22 = .ok (.return_, 1) := by decide +kernel
theorem dX4_wouldLoop_0 : decode cX4_wouldLoop 0 = .ok (.iload_n 2, 1) := by decide +kernel
theorem dX4_wouldLoop_1 : decode cX4_wouldLoop 1 = .ok (.istore_n 3, 1) := by decide +kernel
theorem dX4_wouldLoop_2 : decode cX4_wouldLoop 2 = .ok (.iconst 0, 1) := by decide +kernel
theorem dX4_wouldLoop_3 : decode cX4_wouldLoop 3 = .ok (.istore 4, 2) := by decide +kernel
theorem dX4_wouldLoop_5 : decode cX4_wouldLoop 5 = .ok (.iload 4, 2) := by decide +kernel
theorem dX4_wouldLoop_7 : decode cX4_wouldLoop 7 = .ok (.aload_n 0, 1) := by decide +kernel
theorem dX4_wouldLoop_8 : decode cX4_wouldLoop 8 = .ok (.getfield 7, 3) := by decide +kernel
theorem dX4_wouldLoop_11 : decode cX4_wouldLoop 11 = .ok (.arraylength, 1) := by decide +kernel
theorem dX4_wouldLoop_12 : decode cX4_wouldLoop 12 = .ok (.if_icmp .ge 51, 3) := by decide +kernel
theorem dX4_wouldLoop_15 : decode cX4_wouldLoop 15 = .ok (.iconst 0, 1) := by decide +kernel
theorem dX4_wouldLoop_16 : decode cX4_wouldLoop 16 = .ok (.istore 5, 2) := by decide +kernel
theorem dX4_wouldLoop_18 : decode cX4_wouldLoop 18 = .ok (.iload 5, 2) := by decide +kernel
theorem dX4_wouldLoop_20 : decode cX4_wouldLoop 20 = .ok (.aload_n 0, 1) := by decide +kernel
theorem dX4_wouldLoop_21 : decode cX4_wouldLoop 21 = .ok (.getfield 7, 3) := by decide +kernel
theorem dX4_wouldLoop_24 : decode cX4_wouldLoop 24 = .ok (.arraylength, 1) := by decide +kernel
theorem dX4_wouldLoop_25 : decode cX4_wouldLoop 25 = .ok (.if_icmp .ge 32, 3) := by decide +kernel
theorem dX4_wouldLoop_28 : decode cX4_wouldLoop 28 = .ok (.iload_n 3, 1) := by decide +kernel
theorem dX4_wouldLoop_29 : decode cX4_wouldLoop 29 = .ok (.iload_n 3, 1) := by decide +kernel
theorem dX4_wouldLoop_30 : decode cX4_wouldLoop 30 = .ok (.iload 5, 2) := by decide +kernel
theorem dX4_wouldLoop_32 : decode cX4_wouldLoop 32 = .ok (.invokestatic 19, 3) := by decide +kernel
theorem dX4_wouldLoop_35 : decode cX4_wouldLoop 35 = .ok (.ifCond .eq 13, 3) := by decide +kernel
theorem dX4_wouldLoop_38 : decode cX4_wouldLoop 38 = .ok (.aload_n 0, 1) := by decide +kernel
theorem dX4_wouldLoop_39 : decode cX4_wouldLoop 39 = .ok (.getfield 7, 3) := by decide +kernel
theorem dX4_wouldLoop_42 : decode cX4_wouldLoop 42 = .ok (.iload 5, 2) := by decide +kernel
theorem dX4_wouldLoop_44 : decode cX4_wouldLoop 44 = .ok (.iaload, 1) := by decide +kernel
theorem dX4_wouldLoop_45 : decode cX4_wouldLoop 45 = .ok (.goto 4, 3) := by decide +kernel
theorem dX4_wouldLoop_48 : decode cX4_wouldLoop 48 = .ok (.iconst 0, 1) := by decide +kernel
theorem dX4_wouldLoop_49 : decode cX4_wouldLoop 49 = .ok (.ior, 1) := by decide +kernel
theorem dX4_wouldLoop_50 : decode cX4_wouldLoop 50 = .ok (.istore_n 3, 1) := by decide +kernel
theorem dX4_wouldLoop_51 : decode cX4_wouldLoop 51 = .ok (.iinc 5 1, 3) := by decide +kernel
theorem dX4_wouldLoop_54 : decode cX4_wouldLoop 54 = .ok (.goto (-36), 3) := by decide +kernel
theorem dX4_wouldLoop_57 : decode cX4_wouldLoop 57 = .ok (.iinc 4 1, 3) := by decide +kernel
theorem dX4_wouldLoop_60 : decode cX4_wouldLoop 60 = .ok (.goto (-55), 3) := by decide +kernel
theorem dX4_wouldLoop_63 : decode cX4_wouldLoop 63 = .ok (.iload_n 3, 1) := by decide +kernel
theorem dX4_wouldLoop_64 : decode cX4_wouldLoop 64 = .ok (.iload_n 1, 1) := by decide +kernel
theorem dX4_wouldLoop_65 : decode cX4_wouldLoop 65 = .ok (.invokestatic 19, 3) := by decide +kernel
theorem dX4_wouldLoop_68 : decode cX4_wouldLoop 68 = .ok (.ireturn, 1) := by decide +kernel
theorem dX4_point_0 : decode cX4_point 0 = .ok (.aload_n 0, 1) := by decide +kernel
theorem dX4_point_1 : decode cX4_point 1 = .ok (.getfield 7, 3) := by decide +kernel
theorem dX4_point_4 : decode cX4_point 4 = .ok (.iload_n 1, 1) := by decide +kernel
theorem dX4_point_5 : decode cX4_point 5 = .ok (.iload_n 2, 1) := by decide +kernel
theorem dX4_point_6 : decode cX4_point 6 = .ok (.iastore, 1) := by decide +kernel
theorem dX4_point_7 : decode cX4_point 7 = .ok (.aload_n 0, 1) := by decide +kernel
theorem dX4_point_8 : decode cX4_point 8 = .ok (.invokevirtual 16, 3) := by decide +kernel
theorem dX4_point_11 : decode cX4_point 11 = .ok (.return_, 1) := by decide +kernel
theorem dX4_arrange_0 : decode cX4_arrange 0 = .ok (.iconst 0, 1) := by decide +kernel
theorem dX4_arrange_1 : decode cX4_arrange 1 = .ok (.istore_n 1, 1) := by decide +kernel
theorem dX4_arrange_2 : decode cX4_arrange 2 = .ok (.iconst 0, 1) := by decide +kernel
theorem dX4_arrange_3 : decode cX4_arrange 3 = .ok (.istore_n 2, 1) := by decide +kernel
theorem dX4_arrange_4 : decode cX4_arrange 4 = .ok (.iload_n 2, 1) := by decide +kernel
theorem dX4_arrange_5 : decode cX4_arrange 5 = .ok (.aload_n 0, 1) := by decide +kernel
theorem dX4_arrange_6 : decode cX4_arrange 6 = .ok (.getfield 7, 3) := by decide +kernel
theorem dX4_arrange_9 : decode cX4_arrange 9 = .ok (.arraylength, 1) := by decide +kernel
theorem dX4_arrange_10 : decode cX4_arrange 10 = .ok (.if_icmp .ge 64, 3) := by decide +kernel
theorem dX4_arrange_13 : decode cX4_arrange 13 = .ok (.iconst 0, 1) := by decide +kernel
theorem dX4_arrange_14 : decode cX4_arrange 14 = .ok (.istore_n 3, 1) := by decide +kernel
theorem dX4_arrange_15 : decode cX4_arrange 15 = .ok (.iload_n 3, 1) := by decide +kernel
theorem dX4_arrange_16 : decode cX4_arrange 16 = .ok (.aload_n 0, 1) := by decide +kernel
theorem dX4_arrange_17 : decode cX4_arrange 17 = .ok (.getfield 7, 3) := by decide +kernel
theorem dX4_arrange_20 : decode cX4_arrange 20 = .ok (.arraylength, 1) := by decide +kernel
theorem dX4_arrange_21 : decode cX4_arrange 21 = .ok (.if_icmp .ge 47, 3) := by decide +kernel
theorem dX4_arrange_24 : decode cX4_arrange 24 = .ok (.iload_n 1, 1) := by decide +kernel
theorem dX4_arrange_25 : decode cX4_arrange 25 = .ok (.iload_n 3, 1) := by decide +kernel
theorem dX4_arrange_26 : decode cX4_arrange 26 = .ok (.invokestatic 19, 3) := by decide +kernel
theorem dX4_arrange_29 : decode cX4_arrange 29 = .ok (.ifCond .ne 33, 3) := by decide +kernel
theorem dX4_arrange_32 : decode cX4_arrange 32 = .ok (.aload_n 0, 1) := by decide +kernel
theorem dX4_arrange_33 : decode cX4_arrange 33 = .ok (.getfield 7, 3) := by decide +kernel
theorem dX4_arrange_36 : decode cX4_arrange 36 = .ok (.iload_n 3, 1) := by decide +kernel
theorem dX4_arrange_37 : decode cX4_arrange 37 = .ok (.iaload, 1) := by decide +kernel
theorem dX4_arrange_38 : decode cX4_arrange 38 = .ok (.iload_n 1, 1) := by decide +kernel
theorem dX4_arrange_39 : decode cX4_arrange 39 = .ok (.iconst (-1), 1) := by decide +kernel
theorem dX4_arrange_40 : decode cX4_arrange 40 = .ok (.ixor, 1) := by decide +kernel
theorem dX4_arrange_41 : decode cX4_arrange 41 = .ok (.iand, 1) := by decide +kernel
theorem dX4_arrange_42 : decode cX4_arrange 42 = .ok (.ifCond .ne 20, 3) := by decide +kernel
theorem dX4_arrange_45 : decode cX4_arrange 45 = .ok (.aload_n 0, 1) := by decide +kernel
theorem dX4_arrange_46 : decode cX4_arrange 46 = .ok (.getfield 13, 3) := by decide +kernel
theorem dX4_arrange_49 : decode cX4_arrange 49 = .ok (.iload_n 1, 1) := by decide +kernel
theorem dX4_arrange_50 : decode cX4_arrange 50 = .ok (.invokestatic 25, 3) := by decide +kernel
theorem dX4_arrange_53 : decode cX4_arrange 53 = .ok (.iload_n 3, 1) := by decide +kernel
theorem dX4_arrange_54 : decode cX4_arrange 54 = .ok (.iastore, 1) := by decide +kernel
theorem dX4_arrange_55 : decode cX4_arrange 55 = .ok (.iload_n 1, 1) := by decide +kernel
theorem dX4_arrange_56 : decode cX4_arrange 56 = .ok (.iload_n 3, 1) := by decide +kernel
theorem dX4_arrange_57 : decode cX4_arrange 57 = .ok (.iconst 1, 1) := by decide +kernel
theorem dX4_arrange_58 : decode cX4_arrange 58 = .ok (.invokestatic 31, 3) := by decide +kernel
theorem dX4_arrange_61 : decode cX4_arrange 61 = .ok (.istore_n 1, 1) := by decide +kernel
theorem dX4_arrange_62 : decode cX4_arrange 62 = .ok (.iinc 3 1, 3) := by decide +kernel
theorem dX4_arrange_65 : decode cX4_arrange 65 = .ok (.goto (-50), 3) := by decide +kernel
theorem dX4_arrange_68 : decode cX4_arrange 68 = .ok (.iinc 2 1, 3) := by decide +kernel
theorem dX4_arrange_71 : decode cX4_arrange 71 = .ok (.goto (-67), 3) := by decide +kernel
theorem dX4_arrange_74 : decode cX4_arrange 74 = .ok (.return_, 1) := by decide +kernel
theorem dX5_init_0 : decode cX5_init 0 = .ok (.aload_n 0, 1) := by decide +kernel
theorem dX5_init_1 : decode cX5_init 1 = .ok (.invokespecial 3, 3) := by decide +kernel
theorem dX5_init_4 : decode cX5_init 4 = .ok (.aload_n 0, 1) := by decide +kernel
theorem dX5_init_5 : decode cX5_init 5 = .ok (.bipush 6, 2) := by decide +kernel
theorem dX5_init_7 : decode cX5_init 7 = .ok (.newarray .int, 2) := by decide +kernel
theorem dX5_init_9 : decode cX5_init 9 = .ok (.putfield 9, 3) := by decide +kernel
theorem dX5_init_12 : decode cX5_init 12 = .ok (.aload_n 0, 1) := by decide +kernel
theorem dX5_init_13 : decode cX5_init 13 = .ok (.bipush 6, 2) := by decide +kernel
theorem dX5_init_15 : decode cX5_init 15 = .ok (.bipush 8, 2) := by decide +kernel
theorem dX5_init_17 : decode cX5_init 17 = .ok (.multianewarray 15 2, 4) := by decide +kernel
theorem dX5_init_21 : decode cX5_init 21 = .ok (.putfield 17, 3) := by decide +kernel
theorem dX5_init_24 : decode cX5_init 24 = .ok (.aload_n 0, 1) := by decide +kernel
theorem dX5_init_25 : decode cX5_init 25 = .ok (.bipush 8, 2) := by decide +kernel
theorem dX5_init_27 : decode cX5_init 27 = .ok (.newarray .int, 2) := by decide +kernel
theorem dX5_init_29 : decode cX5_init 29 = .ok (.putfield 20, 3) := by decide +kernel
theorem dX5_init_32 : decode cX5_init 32 = .ok (.aload_n 0, 1) := by decide +kernel
theorem dX5_init_33 : decode cX5_init 33 = .ok (.bipush 8, 2) := by decide +kernel
theorem dX5_init_35 : decode cX5_init 35 = .ok (.newarray .int, 2) := by decide +kernel
theorem dX5_init_37 : decode cX5_init 37 = .ok (.putfield 23, 3) := by decide +kernel
theorem dX5_init_40 : decode cX5_init 40 = .ok (.aload_n 0, 1) := by decide +kernel
theorem dX5_init_41 : decode cX5_init 41 = .ok (.bipush 8, 2) := by decide +kernel
theorem dX5_init_43 : decode cX5_init 43 = .ok (.newarray .int, 2) := by decide +kernel
theorem dX5_init_45 : decode cX5_init 45 = .ok (.putfield 26, 3) := by decide +kernel
theorem dX5_init_48 : decode cX5_init 48 = .ok (.aload_n 0, 1) := by decide +kernel
theorem dX5_init_49 : decode cX5_init 49 = .ok (.invokevirtual 29, 3) := by decide +kernel
theorem dX5_init_52 : decode cX5_init 52 = .ok (.return_, 1) := by decide +kernel
theorem dX5_forget_0 : decode cX5_forget 0 = .ok (.iconst 0, 1) := by decide +kernel
theorem dX5_forget_1 : decode cX5_forget 1 = .ok (.istore_n 1, 1) := by decide +kernel
theorem dX5_forget_2 : decode cX5_forget 2 = .ok (.iload_n 1, 1) := by decide +kernel
theorem dX5_forget_3 : decode cX5_forget 3 = .ok (.bipush 6, 2) := by decide +kernel
theorem dX5_forget_5 : decode cX5_forget 5 = .ok (.if_icmp .ge 14, 3) := by decide +kernel
theorem dX5_forget_8 : decode cX5_forget 8 = .ok (.aload_n 0, 1) := by decide +kernel
theorem dX5_forget_9 : decode cX5_forget 9 = .ok (.iload_n 1, 1) := by decide +kernel
theorem dX5_forget_10 : decode cX5_forget 10 = .ok (.invokevirtual 32, 3) := by decide +kernel
theorem dX5_forget_13 : decode cX5_forget 13 = .ok (.iinc 1 1, 3) := by decide +kernel
theorem dX5_forget_16 : decode cX5_forget 16 = .ok (.goto (-14), 3) := by decide +kernel
theorem dX5_forget_19 : decode cX5_forget 19 = .ok (.aload_n 0, 1) := by decide +kernel
theorem dX5_forget_20 : decode cX5_forget 20 = .ok (.getfield 20, 3) := by decide +kernel
theorem dX5_forget_23 : decode cX5_forget 23 = .ok (.iconst (-1), 1) := by decide +kernel
theorem dX5_forget_24 : decode cX5_forget 24 = .ok (.invokestatic 36, 3) := by decide +kernel
theorem dX5_forget_27 : decode cX5_forget 27 = .ok (.aload_n 0, 1) := by decide +kernel
theorem dX5_forget_28 : decode cX5_forget 28 = .ok (.getfield 23, 3) := by decide +kernel
theorem dX5_forget_31 : decode cX5_forget 31 = .ok (.iconst 0, 1) := by decide +kernel
theorem dX5_forget_32 : decode cX5_forget 32 = .ok (.invokestatic 36, 3) := by decide +kernel
theorem dX5_forget_35 : decode cX5_forget 35 = .ok (.aload_n 0, 1) := by decide +kernel
theorem dX5_forget_36 : decode cX5_forget 36 = .ok (.getfield 26, 3) := by decide +kernel
theorem dX5_forget_39 : decode cX5_forget 39 = .ok (.iconst 0, 1) := by decide +kernel
theorem dX5_forget_40 : decode cX5_forget 40 = .ok (.invokestatic 36, 3) := by decide +kernel
theorem dX5_forget_43 : decode cX5_forget 43 = .ok (.return_, 1) := by decide +kernel
theorem dX5_take_0 : decode cX5_take 0 = .ok (.aload_n 1, 1) := by decide +kernel
theorem dX5_take_1 : decode cX5_take 1 = .ok (.getfield 42, 3) := by decide +kernel
theorem dX5_take_4 : decode cX5_take 4 = .ok (.tableswitch 135 0 5 #[40, 48, 69, 86, 113, 124], 40) := by decide +kernel
theorem dX5_take_44 : decode cX5_take 44 = .ok (.aload_n 0, 1) := by decide +kernel
theorem dX5_take_45 : decode cX5_take 45 = .ok (.aload_n 1, 1) := by decide +kernel
theorem dX5_take_46 : decode cX5_take 46 = .ok (.invokevirtual 48, 3) := by decide +kernel
theorem dX5_take_49 : decode cX5_take 49 = .ok (.goto 98, 3) := by decide +kernel
theorem dX5_take_52 : decode cX5_take 52 = .ok (.aload_n 0, 1) := by decide +kernel
theorem dX5_take_53 : decode cX5_take 53 = .ok (.aload_n 1, 1) := by decide +kernel
theorem dX5_take_54 : decode cX5_take 54 = .ok (.invokevirtual 48, 3) := by decide +kernel
theorem dX5_take_57 : decode cX5_take 57 = .ok (.aload_n 0, 1) := by decide +kernel
theorem dX5_take_58 : decode cX5_take 58 = .ok (.getfield 9, 3) := by decide +kernel
theorem dX5_take_61 : decode cX5_take 61 = .ok (.aload_n 1, 1) := by decide +kernel
theorem dX5_take_62 : decode cX5_take 62 = .ok (.getfield 52, 3) := by decide +kernel
theorem dX5_take_65 : decode cX5_take 65 = .ok (.aload_n 1, 1) := by decide +kernel
theorem dX5_take_66 : decode cX5_take 66 = .ok (.getfield 55, 3) := by decide +kernel
theorem dX5_take_69 : decode cX5_take 69 = .ok (.iastore, 1) := by decide +kernel
theorem dX5_take_70 : decode cX5_take 70 = .ok (.goto 77, 3) := by decide +kernel
theorem dX5_take_73 : decode cX5_take 73 = .ok (.aload_n 0, 1) := by decide +kernel
theorem dX5_take_74 : decode cX5_take 74 = .ok (.bipush 6, 2) := by decide +kernel
theorem dX5_take_76 : decode cX5_take 76 = .ok (.aload_n 1, 1) := by decide +kernel
theorem dX5_take_77 : decode cX5_take 77 = .ok (.getfield 58, 3) := by decide +kernel
theorem dX5_take_80 : decode cX5_take 80 = .ok (.aload_n 1, 1) := by decide +kernel
theorem dX5_take_81 : decode cX5_take 81 = .ok (.getfield 55, 3) := by decide +kernel
theorem dX5_take_84 : decode cX5_take 84 = .ok (.invokevirtual 61, 3) := by decide +kernel
theorem dX5_take_87 : decode cX5_take 87 = .ok (.goto 60, 3) := by decide +kernel
theorem dX5_take_90 : decode cX5_take 90 = .ok (.aload_n 0, 1) := by decide +kernel
theorem dX5_take_91 : decode cX5_take 91 = .ok (.getfield 23, 3) := by decide +kernel
theorem dX5_take_94 : decode cX5_take 94 = .ok (.aload_n 1, 1) := by decide +kernel
theorem dX5_take_95 : decode cX5_take 95 = .ok (.getfield 58, 3) := by decide +kernel
theorem dX5_take_98 : decode cX5_take 98 = .ok (.aload_n 0, 1) := by decide +kernel
theorem dX5_take_99 : decode cX5_take 99 = .ok (.getfield 23, 3) := by decide +kernel
theorem dX5_take_102 : decode cX5_take 102 = .ok (.aload_n 1, 1) := by decide +kernel
theorem dX5_take_103 : decode cX5_take 103 = .ok (.getfield 58, 3) := by decide +kernel
theorem dX5_take_106 : decode cX5_take 106 = .ok (.iaload, 1) := by decide +kernel
theorem dX5_take_107 : decode cX5_take 107 = .ok (.bipush 6, 2) := by decide +kernel
theorem dX5_take_109 : decode cX5_take 109 = .ok (.iconst 0, 1) := by decide +kernel
theorem dX5_take_110 : decode cX5_take 110 = .ok (.invokestatic 65, 3) := by decide +kernel
theorem dX5_take_113 : decode cX5_take 113 = .ok (.iastore, 1) := by decide +kernel
theorem dX5_take_114 : decode cX5_take 114 = .ok (.goto 33, 3) := by decide +kernel
theorem dX5_take_117 : decode cX5_take 117 = .ok (.aload_n 0, 1) := by decide +kernel
theorem dX5_take_118 : decode cX5_take 118 = .ok (.aload_n 1, 1) := by decide +kernel
theorem dX5_take_119 : decode cX5_take 119 = .ok (.getfield 52, 3) := by decide +kernel
theorem dX5_take_122 : decode cX5_take 122 = .ok (.invokevirtual 69, 3) := by decide +kernel
theorem dX5_take_125 : decode cX5_take 125 = .ok (.goto 22, 3) := by decide +kernel
theorem dX5_take_128 : decode cX5_take 128 = .ok (.aload_n 0, 1) := by decide +kernel
theorem dX5_take_129 : decode cX5_take 129 = .ok (.aload_n 1, 1) := by decide +kernel
theorem dX5_take_130 : decode cX5_take 130 = .ok (.getfield 52, 3) := by decide +kernel
theorem dX5_take_133 : decode cX5_take 133 = .ok (.invokevirtual 72, 3) := by decide +kernel
theorem dX5_take_136 : decode cX5_take 136 = .ok (.goto 11, 3) := by decide +kernel
theorem dX5_take_139 : decode cX5_take 139 = .ok (.aload_n 0, 1) := by decide +kernel
theorem dX5_take_140 : decode cX5_take 140 = .ok (.aload_n 1, 1) := by decide +kernel
theorem dX5_take_141 : decode cX5_take 141 = .ok (.getfield 52, 3) := by decide +kernel
theorem dX5_take_144 : decode cX5_take 144 = .ok (.invokevirtual 32, 3) := by decide +kernel
theorem dX5_take_147 : decode cX5_take 147 = .ok (.return_, 1) := by decide +kernel
theorem dX5_countHeldBy_0 : decode cX5_countHeldBy 0 = .ok (.iconst 0, 1) := by decide +kernel
theorem dX5_countHeldBy_1 : decode cX5_countHeldBy 1 = .ok (.istore_n 2, 1) := by decide +kernel
theorem dX5_countHeldBy_2 : decode cX5_countHeldBy 2 = .ok (.iconst 0, 1) := by decide +kernel
theorem dX5_countHeldBy_3 : decode cX5_countHeldBy 3 = .ok (.istore_n 3, 1) := by decide +kernel
theorem dX5_countHeldBy_4 : decode cX5_countHeldBy 4 = .ok (.iload_n 3, 1) := by decide +kernel
theorem dX5_countHeldBy_5 : decode cX5_countHeldBy 5 = .ok (.bipush 8, 2) := by decide +kernel
theorem dX5_countHeldBy_7 : decode cX5_countHeldBy 7 = .ok (.if_icmp .ge 30, 3) := by decide +kernel
theorem dX5_countHeldBy_10 : decode cX5_countHeldBy 10 = .ok (.iload_n 2, 1) := by decide +kernel
theorem dX5_countHeldBy_11 : decode cX5_countHeldBy 11 = .ok (.aload_n 0, 1) := by decide +kernel
theorem dX5_countHeldBy_12 : decode cX5_countHeldBy 12 = .ok (.getfield 23, 3) := by decide +kernel
theorem dX5_countHeldBy_15 : decode cX5_countHeldBy 15 = .ok (.iload_n 3, 1) := by decide +kernel
theorem dX5_countHeldBy_16 : decode cX5_countHeldBy 16 = .ok (.iaload, 1) := by decide +kernel
theorem dX5_countHeldBy_17 : decode cX5_countHeldBy 17 = .ok (.iload_n 1, 1) := by decide +kernel
theorem dX5_countHeldBy_18 : decode cX5_countHeldBy 18 = .ok (.invokestatic 75, 3) := by decide +kernel
theorem dX5_countHeldBy_21 : decode cX5_countHeldBy 21 = .ok (.ifCond .eq 7, 3) := by decide +kernel
theorem dX5_countHeldBy_24 : decode cX5_countHeldBy 24 = .ok (.iconst 1, 1) := by decide +kernel
theorem dX5_countHeldBy_25 : decode cX5_countHeldBy 25 = .ok (.goto 4, 3) := by decide +kernel
theorem dX5_countHeldBy_28 : decode cX5_countHeldBy 28 = .ok (.iconst 0, 1) := by decide +kernel
theorem dX5_countHeldBy_29 : decode cX5_countHeldBy 29 = .ok (.iadd, 1) := by decide +kernel
theorem dX5_countHeldBy_30 : decode cX5_countHeldBy 30 = .ok (.istore_n 2, 1) := by decide +kernel
theorem dX5_countHeldBy_31 : decode cX5_countHeldBy 31 = .ok (.iinc 3 1, 3) := by decide +kernel
theorem dX5_countHeldBy_34 : decode cX5_countHeldBy 34 = .ok (.goto (-30), 3) := by decide +kernel
theorem dX5_countHeldBy_37 : decode cX5_countHeldBy 37 = .ok (.iload_n 2, 1) := by decide +kernel
theorem dX5_countHeldBy_38 : decode cX5_countHeldBy 38 = .ok (.ireturn, 1) := by decide +kernel
theorem dX5_countHeldOnlyBy_0 : decode cX5_countHeldOnlyBy 0 = .ok (.iconst 0, 1) := by decide +kernel
theorem dX5_countHeldOnlyBy_1 : decode cX5_countHeldOnlyBy 1 = .ok (.istore_n 2, 1) := by decide +kernel
theorem dX5_countHeldOnlyBy_2 : decode cX5_countHeldOnlyBy 2 = .ok (.iconst 0, 1) := by decide +kernel
theorem dX5_countHeldOnlyBy_3 : decode cX5_countHeldOnlyBy 3 = .ok (.istore_n 3, 1) := by decide +kernel
theorem dX5_countHeldOnlyBy_4 : decode cX5_countHeldOnlyBy 4 = .ok (.iload_n 3, 1) := by decide +kernel
theorem dX5_countHeldOnlyBy_5 : decode cX5_countHeldOnlyBy 5 = .ok (.bipush 8, 2) := by decide +kernel
theorem dX5_countHeldOnlyBy_7 : decode cX5_countHeldOnlyBy 7 = .ok (.if_icmp .ge 29, 3) := by decide +kernel
theorem dX5_countHeldOnlyBy_10 : decode cX5_countHeldOnlyBy 10 = .ok (.iload_n 2, 1) := by decide +kernel
theorem dX5_countHeldOnlyBy_11 : decode cX5_countHeldOnlyBy 11 = .ok (.aload_n 0, 1) := by decide +kernel
theorem dX5_countHeldOnlyBy_12 : decode cX5_countHeldOnlyBy 12 = .ok (.getfield 23, 3) := by decide +kernel
theorem dX5_countHeldOnlyBy_15 : decode cX5_countHeldOnlyBy 15 = .ok (.iload_n 3, 1) := by decide +kernel
theorem dX5_countHeldOnlyBy_16 : decode cX5_countHeldOnlyBy 16 = .ok (.iaload, 1) := by decide +kernel
theorem dX5_countHeldOnlyBy_17 : decode cX5_countHeldOnlyBy 17 = .ok (.iconst 1, 1) := by decide +kernel
theorem dX5_countHeldOnlyBy_18 : decode cX5_countHeldOnlyBy 18 = .ok (.iload_n 1, 1) := by decide +kernel
theorem dX5_countHeldOnlyBy_19 : decode cX5_countHeldOnlyBy 19 = .ok (.ishl, 1) := by decide +kernel
theorem dX5_countHeldOnlyBy_20 : decode cX5_countHeldOnlyBy 20 = .ok (.if_icmp .ne 7, 3) := by decide +kernel
theorem dX5_countHeldOnlyBy_23 : decode cX5_countHeldOnlyBy 23 = .ok (.iconst 1, 1) := by decide +kernel
theorem dX5_countHeldOnlyBy_24 : decode cX5_countHeldOnlyBy 24 = .ok (.goto 4, 3) := by decide +kernel
theorem dX5_countHeldOnlyBy_27 : decode cX5_countHeldOnlyBy 27 = .ok (.iconst 0, 1) := by decide +kernel
theorem dX5_countHeldOnlyBy_28 : decode cX5_countHeldOnlyBy 28 = .ok (.iadd, 1) := by decide +kernel
theorem dX5_countHeldOnlyBy_29 : decode cX5_countHeldOnlyBy 29 = .ok (.istore_n 2, 1) := by decide +kernel
theorem dX5_countHeldOnlyBy_30 : decode cX5_countHeldOnlyBy 30 = .ok (.iinc 3 1, 3) := by decide +kernel
theorem dX5_countHeldOnlyBy_33 : decode cX5_countHeldOnlyBy 33 = .ok (.goto (-29), 3) := by decide +kernel
theorem dX5_countHeldOnlyBy_36 : decode cX5_countHeldOnlyBy 36 = .ok (.iload_n 2, 1) := by decide +kernel
theorem dX5_countHeldOnlyBy_37 : decode cX5_countHeldOnlyBy 37 = .ok (.ireturn, 1) := by decide +kernel
theorem dX5_noteShowing_0 : decode cX5_noteShowing 0 = .ok (.aload_n 0, 1) := by decide +kernel
theorem dX5_noteShowing_1 : decode cX5_noteShowing 1 = .ok (.getfield 20, 3) := by decide +kernel
theorem dX5_noteShowing_4 : decode cX5_noteShowing 4 = .ok (.aload_n 1, 1) := by decide +kernel
theorem dX5_noteShowing_5 : decode cX5_noteShowing 5 = .ok (.getfield 58, 3) := by decide +kernel
theorem dX5_noteShowing_8 : decode cX5_noteShowing 8 = .ok (.aload_n 1, 1) := by decide +kernel
theorem dX5_noteShowing_9 : decode cX5_noteShowing 9 = .ok (.getfield 55, 3) := by decide +kernel
theorem dX5_noteShowing_12 : decode cX5_noteShowing 12 = .ok (.iastore, 1) := by decide +kernel
theorem dX5_noteShowing_13 : decode cX5_noteShowing 13 = .ok (.aload_n 1, 1) := by decide +kernel
theorem dX5_noteShowing_14 : decode cX5_noteShowing 14 = .ok (.getfield 52, 3) := by decide +kernel
theorem dX5_noteShowing_17 : decode cX5_noteShowing 17 = .ok (.iconst (-1), 1) := by decide +kernel
theorem dX5_noteShowing_18 : decode cX5_noteShowing 18 = .ok (.if_icmp .eq 21, 3) := by decide +kernel
theorem dX5_noteShowing_21 : decode cX5_noteShowing 21 = .ok (.aload_n 0, 1) := by decide +kernel
theorem dX5_noteShowing_22 : decode cX5_noteShowing 22 = .ok (.getfield 17, 3) := by decide +kernel
theorem dX5_noteShowing_25 : decode cX5_noteShowing 25 = .ok (.aload_n 1, 1) := by decide +kernel
theorem dX5_noteShowing_26 : decode cX5_noteShowing 26 = .ok (.getfield 52, 3) := by decide +kernel
theorem dX5_noteShowing_29 : decode cX5_noteShowing 29 = .ok (.aaload, 1) := by decide +kernel
theorem dX5_noteShowing_30 : decode cX5_noteShowing 30 = .ok (.aload_n 1, 1) := by decide +kernel
theorem dX5_noteShowing_31 : decode cX5_noteShowing 31 = .ok (.getfield 58, 3) := by decide +kernel
theorem dX5_noteShowing_34 : decode cX5_noteShowing 34 = .ok (.aload_n 1, 1) := by decide +kernel
theorem dX5_noteShowing_35 : decode cX5_noteShowing 35 = .ok (.getfield 55, 3) := by decide +kernel
theorem dX5_noteShowing_38 : decode cX5_noteShowing 38 = .ok (.iastore, 1) := by decide +kernel
theorem dX5_noteShowing_39 : decode cX5_noteShowing 39 = .ok (.return_, 1) := by decide +kernel
theorem dX5_addHolder_0 : decode cX5_addHolder 0 = .ok (.aload_n 0, 1) := by decide +kernel
theorem dX5_addHolder_1 : decode cX5_addHolder 1 = .ok (.getfield 23, 3) := by decide +kernel
theorem dX5_addHolder_4 : decode cX5_addHolder 4 = .ok (.iload_n 2, 1) := by decide +kernel
theorem dX5_addHolder_5 : decode cX5_addHolder 5 = .ok (.iaload, 1) := by decide +kernel
theorem dX5_addHolder_6 : decode cX5_addHolder 6 = .ok (.ifCond .ne 10, 3) := by decide +kernel
theorem dX5_addHolder_9 : decode cX5_addHolder 9 = .ok (.aload_n 0, 1) := by decide +kernel
theorem dX5_addHolder_10 : decode cX5_addHolder 10 = .ok (.getfield 26, 3) := by decide +kernel
theorem dX5_addHolder_13 : decode cX5_addHolder 13 = .ok (.iload_n 2, 1) := by decide +kernel
theorem dX5_addHolder_14 : decode cX5_addHolder 14 = .ok (.iload_n 3, 1) := by decide +kernel
theorem dX5_addHolder_15 : decode cX5_addHolder 15 = .ok (.iastore, 1) := by decide +kernel
theorem dX5_addHolder_16 : decode cX5_addHolder 16 = .ok (.aload_n 0, 1) := by decide +kernel
theorem dX5_addHolder_17 : decode cX5_addHolder 17 = .ok (.getfield 23, 3) := by decide +kernel
theorem dX5_addHolder_20 : decode cX5_addHolder 20 = .ok (.iload_n 2, 1) := by decide +kernel
theorem dX5_addHolder_21 : decode cX5_addHolder 21 = .ok (.aload_n 0, 1) := by decide +kernel
theorem dX5_addHolder_22 : decode cX5_addHolder 22 = .ok (.getfield 23, 3) := by decide +kernel
theorem dX5_addHolder_25 : decode cX5_addHolder 25 = .ok (.iload_n 2, 1) := by decide +kernel
theorem dX5_addHolder_26 : decode cX5_addHolder 26 = .ok (.iaload, 1) := by decide +kernel
theorem dX5_addHolder_27 : decode cX5_addHolder 27 = .ok (.iload_n 1, 1) := by decide +kernel
theorem dX5_addHolder_28 : decode cX5_addHolder 28 = .ok (.iconst 1, 1) := by decide +kernel
theorem dX5_addHolder_29 : decode cX5_addHolder 29 = .ok (.invokestatic 65, 3) := by decide +kernel
theorem dX5_addHolder_32 : decode cX5_addHolder 32 = .ok (.iastore, 1) := by decide +kernel
theorem dX5_addHolder_33 : decode cX5_addHolder 33 = .ok (.return_, 1) := by decide +kernel
theorem dX5_holdWhatWasShownBy_0 : decode cX5_holdWhatWasShownBy 0 = .ok (.iconst 0, 1) := by decide +kernel
theorem dX5_holdWhatWasShownBy_1 : decode cX5_holdWhatWasShownBy 1 = .ok (.istore_n 2, 1) := by decide +kernel
theorem dX5_holdWhatWasShownBy_2 : decode cX5_holdWhatWasShownBy 2 = .ok (.iload_n 2, 1) := by decide +kernel
theorem dX5_holdWhatWasShownBy_3 : decode cX5_holdWhatWasShownBy 3 = .ok (.bipush 8, 2) := by decide +kernel
theorem dX5_holdWhatWasShownBy_5 : decode cX5_holdWhatWasShownBy 5 = .ok (.if_icmp .ge 35, 3) := by decide +kernel
theorem dX5_holdWhatWasShownBy_8 : decode cX5_holdWhatWasShownBy 8 = .ok (.aload_n 0, 1) := by decide +kernel
theorem dX5_holdWhatWasShownBy_9 : decode cX5_holdWhatWasShownBy 9 = .ok (.getfield 17, 3) := by decide +kernel
theorem dX5_holdWhatWasShownBy_12 : decode cX5_holdWhatWasShownBy 12 = .ok (.iload_n 1, 1) := by decide +kernel
theorem dX5_holdWhatWasShownBy_13 : decode cX5_holdWhatWasShownBy 13 = .ok (.aaload, 1) := by decide +kernel
theorem dX5_holdWhatWasShownBy_14 : decode cX5_holdWhatWasShownBy 14 = .ok (.iload_n 2, 1) := by decide +kernel
theorem dX5_holdWhatWasShownBy_15 : decode cX5_holdWhatWasShownBy 15 = .ok (.iaload, 1) := by decide +kernel
theorem dX5_holdWhatWasShownBy_16 : decode cX5_holdWhatWasShownBy 16 = .ok (.iconst (-1), 1) := by decide +kernel
theorem dX5_holdWhatWasShownBy_17 : decode cX5_holdWhatWasShownBy 17 = .ok (.if_icmp .eq 17, 3) := by decide +kernel
theorem dX5_holdWhatWasShownBy_20 : decode cX5_holdWhatWasShownBy 20 = .ok (.aload_n 0, 1) := by decide +kernel
theorem dX5_holdWhatWasShownBy_21 : decode cX5_holdWhatWasShownBy 21 = .ok (.iload_n 1, 1) := by decide +kernel
theorem dX5_holdWhatWasShownBy_22 : decode cX5_holdWhatWasShownBy 22 = .ok (.iload_n 2, 1) := by decide +kernel
theorem dX5_holdWhatWasShownBy_23 : decode cX5_holdWhatWasShownBy 23 = .ok (.aload_n 0, 1) := by decide +kernel
theorem dX5_holdWhatWasShownBy_24 : decode cX5_holdWhatWasShownBy 24 = .ok (.getfield 17, 3) := by decide +kernel
theorem dX5_holdWhatWasShownBy_27 : decode cX5_holdWhatWasShownBy 27 = .ok (.iload_n 1, 1) := by decide +kernel
theorem dX5_holdWhatWasShownBy_28 : decode cX5_holdWhatWasShownBy 28 = .ok (.aaload, 1) := by decide +kernel
theorem dX5_holdWhatWasShownBy_29 : decode cX5_holdWhatWasShownBy 29 = .ok (.iload_n 2, 1) := by decide +kernel
theorem dX5_holdWhatWasShownBy_30 : decode cX5_holdWhatWasShownBy 30 = .ok (.iaload, 1) := by decide +kernel
theorem dX5_holdWhatWasShownBy_31 : decode cX5_holdWhatWasShownBy 31 = .ok (.invokevirtual 61, 3) := by decide +kernel
theorem dX5_holdWhatWasShownBy_34 : decode cX5_holdWhatWasShownBy 34 = .ok (.iinc 2 1, 3) := by decide +kernel
theorem dX5_holdWhatWasShownBy_37 : decode cX5_holdWhatWasShownBy 37 = .ok (.goto (-35), 3) := by decide +kernel
theorem dX5_holdWhatWasShownBy_40 : decode cX5_holdWhatWasShownBy 40 = .ok (.return_, 1) := by decide +kernel
theorem dX5_releaseAllOf_0 : decode cX5_releaseAllOf 0 = .ok (.iconst 0, 1) := by decide +kernel
theorem dX5_releaseAllOf_1 : decode cX5_releaseAllOf 1 = .ok (.istore_n 2, 1) := by decide +kernel
theorem dX5_releaseAllOf_2 : decode cX5_releaseAllOf 2 = .ok (.iload_n 2, 1) := by decide +kernel
theorem dX5_releaseAllOf_3 : decode cX5_releaseAllOf 3 = .ok (.bipush 8, 2) := by decide +kernel
theorem dX5_releaseAllOf_5 : decode cX5_releaseAllOf 5 = .ok (.if_icmp .ge 26, 3) := by decide +kernel
theorem dX5_releaseAllOf_8 : decode cX5_releaseAllOf 8 = .ok (.aload_n 0, 1) := by decide +kernel
theorem dX5_releaseAllOf_9 : decode cX5_releaseAllOf 9 = .ok (.getfield 23, 3) := by decide +kernel
theorem dX5_releaseAllOf_12 : decode cX5_releaseAllOf 12 = .ok (.iload_n 2, 1) := by decide +kernel
theorem dX5_releaseAllOf_13 : decode cX5_releaseAllOf 13 = .ok (.aload_n 0, 1) := by decide +kernel
theorem dX5_releaseAllOf_14 : decode cX5_releaseAllOf 14 = .ok (.getfield 23, 3) := by decide +kernel
theorem dX5_releaseAllOf_17 : decode cX5_releaseAllOf 17 = .ok (.iload_n 2, 1) := by decide +kernel
theorem dX5_releaseAllOf_18 : decode cX5_releaseAllOf 18 = .ok (.iaload, 1) := by decide +kernel
theorem dX5_releaseAllOf_19 : decode cX5_releaseAllOf 19 = .ok (.iload_n 1, 1) := by decide +kernel
theorem dX5_releaseAllOf_20 : decode cX5_releaseAllOf 20 = .ok (.iconst 0, 1) := by decide +kernel
theorem dX5_releaseAllOf_21 : decode cX5_releaseAllOf 21 = .ok (.invokestatic 65, 3) := by decide +kernel
theorem dX5_releaseAllOf_24 : decode cX5_releaseAllOf 24 = .ok (.iastore, 1) := by decide +kernel
theorem dX5_releaseAllOf_25 : decode cX5_releaseAllOf 25 = .ok (.iinc 2 1, 3) := by decide +kernel
theorem dX5_releaseAllOf_28 : decode cX5_releaseAllOf 28 = .ok (.goto (-26), 3) := by decide +kernel
theorem dX5_releaseAllOf_31 : decode cX5_releaseAllOf 31 = .ok (.return_, 1) := by decide +kernel
theorem dX5_forgetTrial_0 : decode cX5_forgetTrial 0 = .ok (.aload_n 0, 1) := by decide +kernel
theorem dX5_forgetTrial_1 : decode cX5_forgetTrial 1 = .ok (.getfield 9, 3) := by decide +kernel
theorem dX5_forgetTrial_4 : decode cX5_forgetTrial 4 = .ok (.iload_n 1, 1) := by decide +kernel
theorem dX5_forgetTrial_5 : decode cX5_forgetTrial 5 = .ok (.iconst (-1), 1) := by decide +kernel
theorem dX5_forgetTrial_6 : decode cX5_forgetTrial 6 = .ok (.iastore, 1) := by decide +kernel
theorem dX5_forgetTrial_7 : decode cX5_forgetTrial 7 = .ok (.aload_n 0, 1) := by decide +kernel
theorem dX5_forgetTrial_8 : decode cX5_forgetTrial 8 = .ok (.getfield 17, 3) := by decide +kernel
theorem dX5_forgetTrial_11 : decode cX5_forgetTrial 11 = .ok (.iload_n 1, 1) := by decide +kernel
theorem dX5_forgetTrial_12 : decode cX5_forgetTrial 12 = .ok (.aaload, 1) := by decide +kernel
theorem dX5_forgetTrial_13 : decode cX5_forgetTrial 13 = .ok (.iconst (-1), 1) := by decide +kernel
theorem dX5_forgetTrial_14 : decode cX5_forgetTrial 14 = .ok (.invokestatic 36, 3) := by decide +kernel
theorem dX5_forgetTrial_17 : decode cX5_forgetTrial 17 = .ok (.return_, 1) := by decide +kernel
theorem dX6_init_0 : decode cX6_init 0 = .ok (.aload_n 0, 1) := by decide +kernel
theorem dX6_init_1 : decode cX6_init 1 = .ok (.invokespecial 3, 3) := by decide +kernel
theorem dX6_init_4 : decode cX6_init 4 = .ok (.aload_n 0, 1) := by decide +kernel
theorem dX6_init_5 : decode cX6_init 5 = .ok (.bipush 20, 2) := by decide +kernel
theorem dX6_init_7 : decode cX6_init 7 = .ok (.iconst 3, 1) := by decide +kernel
theorem dX6_init_8 : decode cX6_init 8 = .ok (.multianewarray 9 2, 4) := by decide +kernel
theorem dX6_init_12 : decode cX6_init 12 = .ok (.putfield 11, 3) := by decide +kernel
theorem dX6_init_15 : decode cX6_init 15 = .ok (.aload_n 0, 1) := by decide +kernel
theorem dX6_init_16 : decode cX6_init 16 = .ok (.bipush 20, 2) := by decide +kernel
theorem dX6_init_18 : decode cX6_init 18 = .ok (.newarray .int, 2) := by decide +kernel
theorem dX6_init_20 : decode cX6_init 20 = .ok (.putfield 16, 3) := by decide +kernel
theorem dX6_init_23 : decode cX6_init 23 = .ok (.return_, 1) := by decide +kernel
theorem dX6_whoCompares_0 : decode cX6_whoCompares 0 = .ok (.iconst 0, 1) := by decide +kernel
theorem dX6_whoCompares_1 : decode cX6_whoCompares 1 = .ok (.istore 4, 2) := by decide +kernel
theorem dX6_whoCompares_3 : decode cX6_whoCompares 3 = .ok (.iconst 0, 1) := by decide +kernel
theorem dX6_whoCompares_4 : decode cX6_whoCompares 4 = .ok (.istore 5, 2) := by decide +kernel
theorem dX6_whoCompares_6 : decode cX6_whoCompares 6 = .ok (.iload 5, 2) := by decide +kernel
theorem dX6_whoCompares_8 : decode cX6_whoCompares 8 = .ok (.bipush 20, 2) := by decide +kernel
theorem dX6_whoCompares_10 : decode cX6_whoCompares 10 = .ok (.if_icmp .ge 84, 3) := by decide +kernel
theorem dX6_whoCompares_13 : decode cX6_whoCompares 13 = .ok (.aload_n 0, 1) := by decide +kernel
theorem dX6_whoCompares_14 : decode cX6_whoCompares 14 = .ok (.getfield 11, 3) := by decide +kernel
theorem dX6_whoCompares_17 : decode cX6_whoCompares 17 = .ok (.iload 5, 2) := by decide +kernel
theorem dX6_whoCompares_19 : decode cX6_whoCompares 19 = .ok (.aaload, 1) := by decide +kernel
theorem dX6_whoCompares_20 : decode cX6_whoCompares 20 = .ok (.iload_n 1, 1) := by decide +kernel
theorem dX6_whoCompares_21 : decode cX6_whoCompares 21 = .ok (.iaload, 1) := by decide +kernel
theorem dX6_whoCompares_22 : decode cX6_whoCompares 22 = .ok (.istore 6, 2) := by decide +kernel
theorem dX6_whoCompares_24 : decode cX6_whoCompares 24 = .ok (.iload_n 2, 1) := by decide +kernel
theorem dX6_whoCompares_25 : decode cX6_whoCompares 25 = .ok (.bipush 61, 2) := by decide +kernel
theorem dX6_whoCompares_27 : decode cX6_whoCompares 27 = .ok (.if_icmp .ne 17, 3) := by decide +kernel
theorem dX6_whoCompares_30 : decode cX6_whoCompares 30 = .ok (.iload 6, 2) := by decide +kernel
theorem dX6_whoCompares_32 : decode cX6_whoCompares 32 = .ok (.iload_n 3, 1) := by decide +kernel
theorem dX6_whoCompares_33 : decode cX6_whoCompares 33 = .ok (.if_icmp .ne 7, 3) := by decide +kernel
theorem dX6_whoCompares_36 : decode cX6_whoCompares 36 = .ok (.iconst 1, 1) := by decide +kernel
theorem dX6_whoCompares_37 : decode cX6_whoCompares 37 = .ok (.goto 38, 3) := by decide +kernel
theorem dX6_whoCompares_40 : decode cX6_whoCompares 40 = .ok (.iconst 0, 1) := by decide +kernel
theorem dX6_whoCompares_41 : decode cX6_whoCompares 41 = .ok (.goto 34, 3) := by decide +kernel
theorem dX6_whoCompares_44 : decode cX6_whoCompares 44 = .ok (.iload_n 2, 1) := by decide +kernel
theorem dX6_whoCompares_45 : decode cX6_whoCompares 45 = .ok (.bipush 60, 2) := by decide +kernel
theorem dX6_whoCompares_47 : decode cX6_whoCompares 47 = .ok (.if_icmp .ne 17, 3) := by decide +kernel
theorem dX6_whoCompares_50 : decode cX6_whoCompares 50 = .ok (.iload 6, 2) := by decide +kernel
theorem dX6_whoCompares_52 : decode cX6_whoCompares 52 = .ok (.iload_n 3, 1) := by decide +kernel
theorem dX6_whoCompares_53 : decode cX6_whoCompares 53 = .ok (.if_icmp .ge 7, 3) := by decide +kernel
theorem dX6_whoCompares_56 : decode cX6_whoCompares 56 = .ok (.iconst 1, 1) := by decide +kernel
theorem dX6_whoCompares_57 : decode cX6_whoCompares 57 = .ok (.goto 18, 3) := by decide +kernel
theorem dX6_whoCompares_60 : decode cX6_whoCompares 60 = .ok (.iconst 0, 1) := by decide +kernel
theorem dX6_whoCompares_61 : decode cX6_whoCompares 61 = .ok (.goto 14, 3) := by decide +kernel
theorem dX6_whoCompares_64 : decode cX6_whoCompares 64 = .ok (.iload 6, 2) := by decide +kernel
theorem dX6_whoCompares_66 : decode cX6_whoCompares 66 = .ok (.iload_n 3, 1) := by decide +kernel
theorem dX6_whoCompares_67 : decode cX6_whoCompares 67 = .ok (.if_icmp .le 7, 3) := by decide +kernel
theorem dX6_whoCompares_70 : decode cX6_whoCompares 70 = .ok (.iconst 1, 1) := by decide +kernel
theorem dX6_whoCompares_71 : decode cX6_whoCompares 71 = .ok (.goto 4, 3) := by decide +kernel
theorem dX6_whoCompares_74 : decode cX6_whoCompares 74 = .ok (.iconst 0, 1) := by decide +kernel
theorem dX6_whoCompares_75 : decode cX6_whoCompares 75 = .ok (.istore 7, 2) := by decide +kernel
theorem dX6_whoCompares_77 : decode cX6_whoCompares 77 = .ok (.iload 4, 2) := by decide +kernel
theorem dX6_whoCompares_79 : decode cX6_whoCompares 79 = .ok (.iload 5, 2) := by decide +kernel
theorem dX6_whoCompares_81 : decode cX6_whoCompares 81 = .ok (.iload 7, 2) := by decide +kernel
theorem dX6_whoCompares_83 : decode cX6_whoCompares 83 = .ok (.invokestatic 20, 3) := by decide +kernel
theorem dX6_whoCompares_86 : decode cX6_whoCompares 86 = .ok (.istore 4, 2) := by decide +kernel
theorem dX6_whoCompares_88 : decode cX6_whoCompares 88 = .ok (.iinc 5 1, 3) := by decide +kernel
theorem dX6_whoCompares_91 : decode cX6_whoCompares 91 = .ok (.goto (-85), 3) := by decide +kernel
theorem dX6_whoCompares_94 : decode cX6_whoCompares 94 = .ok (.iload 4, 2) := by decide +kernel
theorem dX6_whoCompares_96 : decode cX6_whoCompares 96 = .ok (.ireturn, 1) := by decide +kernel
theorem dX6_whoHasTag_0 : decode cX6_whoHasTag 0 = .ok (.iconst 0, 1) := by decide +kernel
theorem dX6_whoHasTag_1 : decode cX6_whoHasTag 1 = .ok (.istore_n 2, 1) := by decide +kernel
theorem dX6_whoHasTag_2 : decode cX6_whoHasTag 2 = .ok (.iconst 0, 1) := by decide +kernel
theorem dX6_whoHasTag_3 : decode cX6_whoHasTag 3 = .ok (.istore_n 3, 1) := by decide +kernel
theorem dX6_whoHasTag_4 : decode cX6_whoHasTag 4 = .ok (.iload_n 3, 1) := by decide +kernel
theorem dX6_whoHasTag_5 : decode cX6_whoHasTag 5 = .ok (.bipush 20, 2) := by decide +kernel
theorem dX6_whoHasTag_7 : decode cX6_whoHasTag 7 = .ok (.if_icmp .ge 25, 3) := by decide +kernel
theorem dX6_whoHasTag_10 : decode cX6_whoHasTag 10 = .ok (.iload_n 2, 1) := by decide +kernel
theorem dX6_whoHasTag_11 : decode cX6_whoHasTag 11 = .ok (.iload_n 3, 1) := by decide +kernel
theorem dX6_whoHasTag_12 : decode cX6_whoHasTag 12 = .ok (.aload_n 0, 1) := by decide +kernel
theorem dX6_whoHasTag_13 : decode cX6_whoHasTag 13 = .ok (.getfield 16, 3) := by decide +kernel
theorem dX6_whoHasTag_16 : decode cX6_whoHasTag 16 = .ok (.iload_n 3, 1) := by decide +kernel
theorem dX6_whoHasTag_17 : decode cX6_whoHasTag 17 = .ok (.iaload, 1) := by decide +kernel
theorem dX6_whoHasTag_18 : decode cX6_whoHasTag 18 = .ok (.iload_n 1, 1) := by decide +kernel
theorem dX6_whoHasTag_19 : decode cX6_whoHasTag 19 = .ok (.invokestatic 24, 3) := by decide +kernel
theorem dX6_whoHasTag_22 : decode cX6_whoHasTag 22 = .ok (.invokestatic 20, 3) := by decide +kernel
theorem dX6_whoHasTag_25 : decode cX6_whoHasTag 25 = .ok (.istore_n 2, 1) := by decide +kernel
theorem dX6_whoHasTag_26 : decode cX6_whoHasTag 26 = .ok (.iinc 3 1, 3) := by decide +kernel
theorem dX6_whoHasTag_29 : decode cX6_whoHasTag 29 = .ok (.goto (-25), 3) := by decide +kernel
theorem dX6_whoHasTag_32 : decode cX6_whoHasTag 32 = .ok (.iload_n 2, 1) := by decide +kernel
theorem dX6_whoHasTag_33 : decode cX6_whoHasTag 33 = .ok (.ireturn, 1) := by decide +kernel
theorem dX7_init_0 : decode cX7_init 0 = .ok (.aload_n 0, 1) := by decide +kernel
theorem dX7_init_1 : decode cX7_init 1 = .ok (.invokespecial 3, 3) := by decide +kernel
theorem dX7_init_4 : decode cX7_init 4 = .ok (.return_, 1) := by decide +kernel
theorem dX7_findFault_0 : decode cX7_findFault 0 = .ok (.aload_n 0, 1) := by decide +kernel
theorem dX7_findFault_1 : decode cX7_findFault 1 = .ok (.iconst 0, 1) := by decide +kernel
theorem dX7_findFault_2 : decode cX7_findFault 2 = .ok (.putfield 11, 3) := by decide +kernel
theorem dX7_findFault_5 : decode cX7_findFault 5 = .ok (.aload_n 0, 1) := by decide +kernel
theorem dX7_findFault_6 : decode cX7_findFault 6 = .ok (.iconst 0, 1) := by decide +kernel
theorem dX7_findFault_7 : decode cX7_findFault 7 = .ok (.putfield 15, 3) := by decide +kernel
theorem dX7_findFault_10 : decode cX7_findFault 10 = .ok (.iconst 0, 1) := by decide +kernel
theorem dX7_findFault_11 : decode cX7_findFault 11 = .ok (.istore_n 2, 1) := by decide +kernel
theorem dX7_findFault_12 : decode cX7_findFault 12 = .ok (.iload_n 2, 1) := by decide +kernel
theorem dX7_findFault_13 : decode cX7_findFault 13 = .ok (.aload_n 1, 1) := by decide +kernel
theorem dX7_findFault_14 : decode cX7_findFault 14 = .ok (.getfield 18, 3) := by decide +kernel
theorem dX7_findFault_17 : decode cX7_findFault 17 = .ok (.if_icmp .ge 32, 3) := by decide +kernel
theorem dX7_findFault_20 : decode cX7_findFault 20 = .ok (.aload_n 0, 1) := by decide +kernel
theorem dX7_findFault_21 : decode cX7_findFault 21 = .ok (.aload_n 0, 1) := by decide +kernel
theorem dX7_findFault_22 : decode cX7_findFault 22 = .ok (.aload_n 1, 1) := by decide +kernel
theorem dX7_findFault_23 : decode cX7_findFault 23 = .ok (.iload_n 2, 1) := by decide +kernel
theorem dX7_findFault_24 : decode cX7_findFault 24 = .ok (.invokevirtual 23, 3) := by decide +kernel
theorem dX7_findFault_27 : decode cX7_findFault 27 = .ok (.invokevirtual 27, 3) := by decide +kernel
theorem dX7_findFault_30 : decode cX7_findFault 30 = .ok (.putfield 11, 3) := by decide +kernel
theorem dX7_findFault_33 : decode cX7_findFault 33 = .ok (.aload_n 0, 1) := by decide +kernel
theorem dX7_findFault_34 : decode cX7_findFault 34 = .ok (.getfield 11, 3) := by decide +kernel
theorem dX7_findFault_37 : decode cX7_findFault 37 = .ok (.iconst (-1), 1) := by decide +kernel
theorem dX7_findFault_38 : decode cX7_findFault 38 = .ok (.if_icmp .ne 5, 3) := by decide +kernel
theorem dX7_findFault_41 : decode cX7_findFault 41 = .ok (.iload_n 2, 1) := by decide +kernel
theorem dX7_findFault_42 : decode cX7_findFault 42 = .ok (.ireturn, 1) := by decide +kernel
theorem dX7_findFault_43 : decode cX7_findFault 43 = .ok (.iinc 2 1, 3) := by decide +kernel
theorem dX7_findFault_46 : decode cX7_findFault 46 = .ok (.goto (-34), 3) := by decide +kernel
theorem dX7_findFault_49 : decode cX7_findFault 49 = .ok (.aload_n 0, 1) := by decide +kernel
theorem dX7_findFault_50 : decode cX7_findFault 50 = .ok (.getfield 15, 3) := by decide +kernel
theorem dX7_findFault_53 : decode cX7_findFault 53 = .ok (.ifCond .ne 24, 3) := by decide +kernel
theorem dX7_findFault_56 : decode cX7_findFault 56 = .ok (.aload_n 0, 1) := by decide +kernel
theorem dX7_findFault_57 : decode cX7_findFault 57 = .ok (.getfield 11, 3) := by decide +kernel
theorem dX7_findFault_60 : decode cX7_findFault 60 = .ok (.bipush 6, 2) := by decide +kernel
theorem dX7_findFault_62 : decode cX7_findFault 62 = .ok (.if_icmp .eq 11, 3) := by decide +kernel
theorem dX7_findFault_65 : decode cX7_findFault 65 = .ok (.aload_n 0, 1) := by decide +kernel
theorem dX7_findFault_66 : decode cX7_findFault 66 = .ok (.getfield 11, 3) := by decide +kernel
theorem dX7_findFault_69 : decode cX7_findFault 69 = .ok (.iconst 3, 1) := by decide +kernel
theorem dX7_findFault_70 : decode cX7_findFault 70 = .ok (.if_icmp .ne 7, 3) := by decide +kernel
theorem dX7_findFault_73 : decode cX7_findFault 73 = .ok (.iconst 1, 1) := by decide +kernel
theorem dX7_findFault_74 : decode cX7_findFault 74 = .ok (.goto 4, 3) := by decide +kernel
theorem dX7_findFault_77 : decode cX7_findFault 77 = .ok (.iconst 0, 1) := by decide +kernel
theorem dX7_findFault_78 : decode cX7_findFault 78 = .ok (.istore_n 2, 1) := by decide +kernel
theorem dX7_findFault_79 : decode cX7_findFault 79 = .ok (.iload_n 2, 1) := by decide +kernel
theorem dX7_findFault_80 : decode cX7_findFault 80 = .ok (.ifCond .eq 7, 3) := by decide +kernel
theorem dX7_findFault_83 : decode cX7_findFault 83 = .ok (.iconst (-1), 1) := by decide +kernel
theorem dX7_findFault_84 : decode cX7_findFault 84 = .ok (.goto 7, 3) := by decide +kernel
theorem dX7_findFault_87 : decode cX7_findFault 87 = .ok (.aload_n 1, 1) := by decide +kernel
theorem dX7_findFault_88 : decode cX7_findFault 88 = .ok (.getfield 18, 3) := by decide +kernel
theorem dX7_findFault_91 : decode cX7_findFault 91 = .ok (.ireturn, 1) := by decide +kernel
theorem dX7_stateAfter_0 : decode cX7_stateAfter 0 = .ok (.aload_n 0, 1) := by decide +kernel
theorem dX7_stateAfter_1 : decode cX7_stateAfter 1 = .ok (.getfield 11, 3) := by decide +kernel
theorem dX7_stateAfter_4 : decode cX7_stateAfter 4 = .ok (.tableswitch 149 0 5 #[40, 46, 70, 88, 111, 130], 40) := by decide +kernel
theorem dX7_stateAfter_44 : decode cX7_stateAfter 44 = .ok (.aload_n 0, 1) := by decide +kernel
theorem dX7_stateAfter_45 : decode cX7_stateAfter 45 = .ok (.iload_n 1, 1) := by decide +kernel
theorem dX7_stateAfter_46 : decode cX7_stateAfter 46 = .ok (.invokevirtual 30, 3) := by decide +kernel
theorem dX7_stateAfter_49 : decode cX7_stateAfter 49 = .ok (.ireturn, 1) := by decide +kernel
theorem dX7_stateAfter_50 : decode cX7_stateAfter 50 = .ok (.iload_n 1, 1) := by decide +kernel
theorem dX7_stateAfter_51 : decode cX7_stateAfter 51 = .ok (.bipush 61, 2) := by decide +kernel
theorem dX7_stateAfter_53 : decode cX7_stateAfter 53 = .ok (.if_icmp .eq 15, 3) := by decide +kernel
theorem dX7_stateAfter_56 : decode cX7_stateAfter 56 = .ok (.iload_n 1, 1) := by decide +kernel
theorem dX7_stateAfter_57 : decode cX7_stateAfter 57 = .ok (.bipush 60, 2) := by decide +kernel
theorem dX7_stateAfter_59 : decode cX7_stateAfter 59 = .ok (.if_icmp .eq 9, 3) := by decide +kernel
theorem dX7_stateAfter_62 : decode cX7_stateAfter 62 = .ok (.iload_n 1, 1) := by decide +kernel
theorem dX7_stateAfter_63 : decode cX7_stateAfter 63 = .ok (.bipush 62, 2) := by decide +kernel
theorem dX7_stateAfter_65 : decode cX7_stateAfter 65 = .ok (.if_icmp .ne 7, 3) := by decide +kernel
theorem dX7_stateAfter_68 : decode cX7_stateAfter 68 = .ok (.iconst 2, 1) := by decide +kernel
theorem dX7_stateAfter_69 : decode cX7_stateAfter 69 = .ok (.goto 4, 3) := by decide +kernel
theorem dX7_stateAfter_72 : decode cX7_stateAfter 72 = .ok (.iconst (-1), 1) := by decide +kernel
theorem dX7_stateAfter_73 : decode cX7_stateAfter 73 = .ok (.ireturn, 1) := by decide +kernel
theorem dX7_stateAfter_74 : decode cX7_stateAfter 74 = .ok (.iload_n 1, 1) := by decide +kernel
theorem dX7_stateAfter_75 : decode cX7_stateAfter 75 = .ok (.bipush 48, 2) := by decide +kernel
theorem dX7_stateAfter_77 : decode cX7_stateAfter 77 = .ok (.if_icmp .lt 13, 3) := by decide +kernel
theorem dX7_stateAfter_80 : decode cX7_stateAfter 80 = .ok (.iload_n 1, 1) := by decide +kernel
theorem dX7_stateAfter_81 : decode cX7_stateAfter 81 = .ok (.bipush 57, 2) := by decide +kernel
theorem dX7_stateAfter_83 : decode cX7_stateAfter 83 = .ok (.if_icmp .gt 7, 3) := by decide +kernel
theorem dX7_stateAfter_86 : decode cX7_stateAfter 86 = .ok (.iconst 3, 1) := by decide +kernel
theorem dX7_stateAfter_87 : decode cX7_stateAfter 87 = .ok (.goto 4, 3) := by decide +kernel
theorem dX7_stateAfter_90 : decode cX7_stateAfter 90 = .ok (.iconst (-1), 1) := by decide +kernel
theorem dX7_stateAfter_91 : decode cX7_stateAfter 91 = .ok (.ireturn, 1) := by decide +kernel
theorem dX7_stateAfter_92 : decode cX7_stateAfter 92 = .ok (.iload_n 1, 1) := by decide +kernel
theorem dX7_stateAfter_93 : decode cX7_stateAfter 93 = .ok (.bipush 48, 2) := by decide +kernel
theorem dX7_stateAfter_95 : decode cX7_stateAfter 95 = .ok (.if_icmp .lt 14, 3) := by decide +kernel
theorem dX7_stateAfter_98 : decode cX7_stateAfter 98 = .ok (.iload_n 1, 1) := by decide +kernel
theorem dX7_stateAfter_99 : decode cX7_stateAfter 99 = .ok (.bipush 57, 2) := by decide +kernel
theorem dX7_stateAfter_101 : decode cX7_stateAfter 101 = .ok (.if_icmp .gt 8, 3) := by decide +kernel
theorem dX7_stateAfter_104 : decode cX7_stateAfter 104 = .ok (.bipush 6, 2) := by decide +kernel
theorem dX7_stateAfter_106 : decode cX7_stateAfter 106 = .ok (.goto 8, 3) := by decide +kernel
theorem dX7_stateAfter_109 : decode cX7_stateAfter 109 = .ok (.aload_n 0, 1) := by decide +kernel
theorem dX7_stateAfter_110 : decode cX7_stateAfter 110 = .ok (.iload_n 1, 1) := by decide +kernel
theorem dX7_stateAfter_111 : decode cX7_stateAfter 111 = .ok (.invokevirtual 33, 3) := by decide +kernel
theorem dX7_stateAfter_114 : decode cX7_stateAfter 114 = .ok (.ireturn, 1) := by decide +kernel
theorem dX7_stateAfter_115 : decode cX7_stateAfter 115 = .ok (.iload_n 1, 1) := by decide +kernel
theorem dX7_stateAfter_116 : decode cX7_stateAfter 116 = .ok (.bipush 48, 2) := by decide +kernel
theorem dX7_stateAfter_118 : decode cX7_stateAfter 118 = .ok (.if_icmp .lt 14, 3) := by decide +kernel
theorem dX7_stateAfter_121 : decode cX7_stateAfter 121 = .ok (.iload_n 1, 1) := by decide +kernel
theorem dX7_stateAfter_122 : decode cX7_stateAfter 122 = .ok (.bipush 56, 2) := by decide +kernel
theorem dX7_stateAfter_124 : decode cX7_stateAfter 124 = .ok (.if_icmp .ge 8, 3) := by decide +kernel
theorem dX7_stateAfter_127 : decode cX7_stateAfter 127 = .ok (.bipush 6, 2) := by decide +kernel
theorem dX7_stateAfter_129 : decode cX7_stateAfter 129 = .ok (.goto 4, 3) := by decide +kernel
theorem dX7_stateAfter_132 : decode cX7_stateAfter 132 = .ok (.iconst (-1), 1) := by decide +kernel
theorem dX7_stateAfter_133 : decode cX7_stateAfter 133 = .ok (.ireturn, 1) := by decide +kernel
theorem dX7_stateAfter_134 : decode cX7_stateAfter 134 = .ok (.iload_n 1, 1) := by decide +kernel
theorem dX7_stateAfter_135 : decode cX7_stateAfter 135 = .ok (.bipush 48, 2) := by decide +kernel
theorem dX7_stateAfter_137 : decode cX7_stateAfter 137 = .ok (.if_icmp .lt 14, 3) := by decide +kernel
theorem dX7_stateAfter_140 : decode cX7_stateAfter 140 = .ok (.iload_n 1, 1) := by decide +kernel
theorem dX7_stateAfter_141 : decode cX7_stateAfter 141 = .ok (.bipush 54, 2) := by decide +kernel
theorem dX7_stateAfter_143 : decode cX7_stateAfter 143 = .ok (.if_icmp .ge 8, 3) := by decide +kernel
theorem dX7_stateAfter_146 : decode cX7_stateAfter 146 = .ok (.bipush 6, 2) := by decide +kernel
theorem dX7_stateAfter_148 : decode cX7_stateAfter 148 = .ok (.goto 4, 3) := by decide +kernel
theorem dX7_stateAfter_151 : decode cX7_stateAfter 151 = .ok (.iconst (-1), 1) := by decide +kernel
theorem dX7_stateAfter_152 : decode cX7_stateAfter 152 = .ok (.ireturn, 1) := by decide +kernel
theorem dX7_stateAfter_153 : decode cX7_stateAfter 153 = .ok (.aload_n 0, 1) := by decide +kernel
theorem dX7_stateAfter_154 : decode cX7_stateAfter 154 = .ok (.iload_n 1, 1) := by decide +kernel
theorem dX7_stateAfter_155 : decode cX7_stateAfter 155 = .ok (.invokevirtual 33, 3) := by decide +kernel
theorem dX7_stateAfter_158 : decode cX7_stateAfter 158 = .ok (.ireturn, 1) := by decide +kernel
theorem dX7_stateInFactor_0 : decode cX7_stateInFactor 0 = .ok (.iload_n 1, 1) := by decide +kernel
theorem dX7_stateInFactor_1 : decode cX7_stateInFactor 1 = .ok (.lookupswitch 111 #[(33, 75), (40, 77), (42, 102), (64, 109), (97, 105), (108, 105), (112, 105), (116, 107)], 75) := by decide +kernel
theorem dX7_stateInFactor_76 : decode cX7_stateInFactor 76 = .ok (.iconst 0, 1) := by decide +kernel
theorem dX7_stateInFactor_77 : decode cX7_stateInFactor 77 = .ok (.ireturn, 1) := by decide +kernel
theorem dX7_stateInFactor_78 : decode cX7_stateInFactor 78 = .ok (.aload_n 0, 1) := by decide +kernel
theorem dX7_stateInFactor_79 : decode cX7_stateInFactor 79 = .ok (.dup, 1) := by decide +kernel
theorem dX7_stateInFactor_80 : decode cX7_stateInFactor 80 = .ok (.getfield 15, 3) := by decide +kernel
theorem dX7_stateInFactor_83 : decode cX7_stateInFactor 83 = .ok (.iconst 1, 1) := by decide +kernel
theorem dX7_stateInFactor_84 : decode cX7_stateInFactor 84 = .ok (.iadd, 1) := by decide +kernel
theorem dX7_stateInFactor_85 : decode cX7_stateInFactor 85 = .ok (.putfield 15, 3) := by decide +kernel
theorem dX7_stateInFactor_88 : decode cX7_stateInFactor 88 = .ok (.aload_n 0, 1) := by decide +kernel
theorem dX7_stateInFactor_89 : decode cX7_stateInFactor 89 = .ok (.getfield 15, 3) := by decide +kernel
theorem dX7_stateInFactor_92 : decode cX7_stateInFactor 92 = .ok (.bipush 8, 2) := by decide +kernel
theorem dX7_stateInFactor_94 : decode cX7_stateInFactor 94 = .ok (.if_icmp .gt 7, 3) := by decide +kernel
theorem dX7_stateInFactor_97 : decode cX7_stateInFactor 97 = .ok (.iconst 0, 1) := by decide +kernel
theorem dX7_stateInFactor_98 : decode cX7_stateInFactor 98 = .ok (.goto 4, 3) := by decide +kernel
theorem dX7_stateInFactor_101 : decode cX7_stateInFactor 101 = .ok (.iconst (-1), 1) := by decide +kernel
theorem dX7_stateInFactor_102 : decode cX7_stateInFactor 102 = .ok (.ireturn, 1) := by decide +kernel
theorem dX7_stateInFactor_103 : decode cX7_stateInFactor 103 = .ok (.bipush 6, 2) := by decide +kernel
theorem dX7_stateInFactor_105 : decode cX7_stateInFactor 105 = .ok (.ireturn, 1) := by decide +kernel
theorem dX7_stateInFactor_106 : decode cX7_stateInFactor 106 = .ok (.iconst 1, 1) := by decide +kernel
theorem dX7_stateInFactor_107 : decode cX7_stateInFactor 107 = .ok (.ireturn, 1) := by decide +kernel
theorem dX7_stateInFactor_108 : decode cX7_stateInFactor 108 = .ok (.iconst 4, 1) := by decide +kernel
theorem dX7_stateInFactor_109 : decode cX7_stateInFactor 109 = .ok (.ireturn, 1) := by decide +kernel
theorem dX7_stateInFactor_110 : decode cX7_stateInFactor 110 = .ok (.iconst 5, 1) := by decide +kernel
theorem dX7_stateInFactor_111 : decode cX7_stateInFactor 111 = .ok (.ireturn, 1) := by decide +kernel
theorem dX7_stateInFactor_112 : decode cX7_stateInFactor 112 = .ok (.iconst (-1), 1) := by decide +kernel
theorem dX7_stateInFactor_113 : decode cX7_stateInFactor 113 = .ok (.ireturn, 1) := by decide +kernel
theorem dX7_stateBehindFactor_0 : decode cX7_stateBehindFactor 0 = .ok (.iload_n 1, 1) := by decide +kernel
theorem dX7_stateBehindFactor_1 : decode cX7_stateBehindFactor 1 = .ok (.lookupswitch 61 #[(38, 35), (41, 37), (124, 35)], 35) := by decide +kernel
theorem dX7_stateBehindFactor_36 : decode cX7_stateBehindFactor 36 = .ok (.iconst 0, 1) := by decide +kernel
theorem dX7_stateBehindFactor_37 : decode cX7_stateBehindFactor 37 = .ok (.ireturn, 1) := by decide +kernel
theorem dX7_stateBehindFactor_38 : decode cX7_stateBehindFactor 38 = .ok (.aload_n 0, 1) := by decide +kernel
theorem dX7_stateBehindFactor_39 : decode cX7_stateBehindFactor 39 = .ok (.dup, 1) := by decide +kernel
theorem dX7_stateBehindFactor_40 : decode cX7_stateBehindFactor 40 = .ok (.getfield 15, 3) := by decide +kernel
theorem dX7_stateBehindFactor_43 : decode cX7_stateBehindFactor 43 = .ok (.iconst 1, 1) := by decide +kernel
theorem dX7_stateBehindFactor_44 : decode cX7_stateBehindFactor 44 = .ok (.isub, 1) := by decide +kernel
theorem dX7_stateBehindFactor_45 : decode cX7_stateBehindFactor 45 = .ok (.putfield 15, 3) := by decide +kernel
theorem dX7_stateBehindFactor_48 : decode cX7_stateBehindFactor 48 = .ok (.aload_n 0, 1) := by decide +kernel
theorem dX7_stateBehindFactor_49 : decode cX7_stateBehindFactor 49 = .ok (.getfield 15, 3) := by decide +kernel
theorem dX7_stateBehindFactor_52 : decode cX7_stateBehindFactor 52 = .ok (.ifCond .lt 8, 3) := by decide +kernel
theorem dX7_stateBehindFactor_55 : decode cX7_stateBehindFactor 55 = .ok (.bipush 6, 2) := by decide +kernel
theorem dX7_stateBehindFactor_57 : decode cX7_stateBehindFactor 57 = .ok (.goto 4, 3) := by decide +kernel
theorem dX7_stateBehindFactor_60 : decode cX7_stateBehindFactor 60 = .ok (.iconst (-1), 1) := by decide +kernel
theorem dX7_stateBehindFactor_61 : decode cX7_stateBehindFactor 61 = .ok (.ireturn, 1) := by decide +kernel
theorem dX7_stateBehindFactor_62 : decode cX7_stateBehindFactor 62 = .ok (.iconst (-1), 1) := by decide +kernel
theorem dX7_stateBehindFactor_63 : decode cX7_stateBehindFactor 63 = .ok (.ireturn, 1) := by decide +kernel
theorem dX8_init_0 : decode cX8_init 0 = .ok (.aload_n 0, 1) := by decide +kernel
theorem dX8_init_1 : decode cX8_init 1 = .ok (.invokespecial 3, 3) := by decide +kernel
theorem dX8_init_4 : decode cX8_init 4 = .ok (.aload_n 0, 1) := by decide +kernel
theorem dX8_init_5 : decode cX8_init 5 = .ok (.bipush 60, 2) := by decide +kernel
theorem dX8_init_7 : decode cX8_init 7 = .ok (.newarray .char, 2) := by decide +kernel
theorem dX8_init_9 : decode cX8_init 9 = .ok (.putfield 9, 3) := by decide +kernel
theorem dX8_init_12 : decode cX8_init 12 = .ok (.return_, 1) := by decide +kernel
theorem dX8_append_0 : decode cX8_append 0 = .ok (.aload_n 0, 1) := by decide +kernel
theorem dX8_append_1 : decode cX8_append 1 = .ok (.getfield 15, 3) := by decide +kernel
theorem dX8_append_4 : decode cX8_append 4 = .ok (.bipush 60, 2) := by decide +kernel
theorem dX8_append_6 : decode cX8_append 6 = .ok (.if_icmp .ge 24, 3) := by decide +kernel
theorem dX8_append_9 : decode cX8_append 9 = .ok (.aload_n 0, 1) := by decide +kernel
theorem dX8_append_10 : decode cX8_append 10 = .ok (.getfield 9, 3) := by decide +kernel
theorem dX8_append_13 : decode cX8_append 13 = .ok (.aload_n 0, 1) := by decide +kernel
theorem dX8_append_14 : decode cX8_append 14 = .ok (.getfield 15, 3) := by decide +kernel
theorem dX8_append_17 : decode cX8_append 17 = .ok (.iload_n 1, 1) := by decide +kernel
theorem dX8_append_18 : decode cX8_append 18 = .ok (.i2c, 1) := by decide +kernel
theorem dX8_append_19 : decode cX8_append 19 = .ok (.castore, 1) := by decide +kernel
theorem dX8_append_20 : decode cX8_append 20 = .ok (.aload_n 0, 1) := by decide +kernel
theorem dX8_append_21 : decode cX8_append 21 = .ok (.dup, 1) := by decide +kernel
theorem dX8_append_22 : decode cX8_append 22 = .ok (.getfield 15, 3) := by decide +kernel
theorem dX8_append_25 : decode cX8_append 25 = .ok (.iconst 1, 1) := by decide +kernel
theorem dX8_append_26 : decode cX8_append 26 = .ok (.iadd, 1) := by decide +kernel
theorem dX8_append_27 : decode cX8_append 27 = .ok (.putfield 15, 3) := by decide +kernel
theorem dX8_append_30 : decode cX8_append 30 = .ok (.return_, 1) := by decide +kernel
theorem dX8_signAt_0 : decode cX8_signAt 0 = .ok (.iload_n 1, 1) := by decide +kernel
theorem dX8_signAt_1 : decode cX8_signAt 1 = .ok (.ifCond .lt 20, 3) := by decide +kernel
theorem dX8_signAt_4 : decode cX8_signAt 4 = .ok (.iload_n 1, 1) := by decide +kernel
theorem dX8_signAt_5 : decode cX8_signAt 5 = .ok (.aload_n 0, 1) := by decide +kernel
theorem dX8_signAt_6 : decode cX8_signAt 6 = .ok (.getfield 15, 3) := by decide +kernel
theorem dX8_signAt_9 : decode cX8_signAt 9 = .ok (.if_icmp .ge 12, 3) := by decide +kernel
theorem dX8_signAt_12 : decode cX8_signAt 12 = .ok (.aload_n 0, 1) := by decide +kernel
theorem dX8_signAt_13 : decode cX8_signAt 13 = .ok (.getfield 9, 3) := by decide +kernel
theorem dX8_signAt_16 : decode cX8_signAt 16 = .ok (.iload_n 1, 1) := by decide +kernel
theorem dX8_signAt_17 : decode cX8_signAt 17 = .ok (.caload, 1) := by decide +kernel
theorem dX8_signAt_18 : decode cX8_signAt 18 = .ok (.goto 4, 3) := by decide +kernel
theorem dX8_signAt_21 : decode cX8_signAt 21 = .ok (.iconst 0, 1) := by decide +kernel
theorem dX8_signAt_22 : decode cX8_signAt 22 = .ok (.ireturn, 1) := by decide +kernel
theorem dX8_digitAt_0 : decode cX8_digitAt 0 = .ok (.aload_n 0, 1) := by decide +kernel
theorem dX8_digitAt_1 : decode cX8_digitAt 1 = .ok (.iload_n 1, 1) := by decide +kernel
theorem dX8_digitAt_2 : decode cX8_digitAt 2 = .ok (.invokevirtual 19, 3) := by decide +kernel
theorem dX8_digitAt_5 : decode cX8_digitAt 5 = .ok (.bipush 48, 2) := by decide +kernel
theorem dX8_digitAt_7 : decode cX8_digitAt 7 = .ok (.isub, 1) := by decide +kernel
theorem dX8_digitAt_8 : decode cX8_digitAt 8 = .ok (.istore_n 2, 1) := by decide +kernel
theorem dX8_digitAt_9 : decode cX8_digitAt 9 = .ok (.iload_n 2, 1) := by decide +kernel
theorem dX8_digitAt_10 : decode cX8_digitAt 10 = .ok (.ifCond .lt 13, 3) := by decide +kernel
theorem dX8_digitAt_13 : decode cX8_digitAt 13 = .ok (.iload_n 2, 1) := by decide +kernel
theorem dX8_digitAt_14 : decode cX8_digitAt 14 = .ok (.bipush 9, 2) := by decide +kernel
theorem dX8_digitAt_16 : decode cX8_digitAt 16 = .ok (.if_icmp .gt 7, 3) := by decide +kernel
theorem dX8_digitAt_19 : decode cX8_digitAt 19 = .ok (.iload_n 2, 1) := by decide +kernel
theorem dX8_digitAt_20 : decode cX8_digitAt 20 = .ok (.goto 4, 3) := by decide +kernel
theorem dX8_digitAt_23 : decode cX8_digitAt 23 = .ok (.iconst (-1), 1) := by decide +kernel
theorem dX8_digitAt_24 : decode cX8_digitAt 24 = .ok (.ireturn, 1) := by decide +kernel
theorem dX8_numberAt_0 : decode cX8_numberAt 0 = .ok (.aload_n 0, 1) := by decide +kernel
theorem dX8_numberAt_1 : decode cX8_numberAt 1 = .ok (.iload_n 1, 1) := by decide +kernel
theorem dX8_numberAt_2 : decode cX8_numberAt 2 = .ok (.invokevirtual 23, 3) := by decide +kernel
theorem dX8_numberAt_5 : decode cX8_numberAt 5 = .ok (.istore_n 2, 1) := by decide +kernel
theorem dX8_numberAt_6 : decode cX8_numberAt 6 = .ok (.aload_n 0, 1) := by decide +kernel
theorem dX8_numberAt_7 : decode cX8_numberAt 7 = .ok (.iload_n 1, 1) := by decide +kernel
theorem dX8_numberAt_8 : decode cX8_numberAt 8 = .ok (.iconst 1, 1) := by decide +kernel
theorem dX8_numberAt_9 : decode cX8_numberAt 9 = .ok (.iadd, 1) := by decide +kernel
theorem dX8_numberAt_10 : decode cX8_numberAt 10 = .ok (.invokevirtual 23, 3) := by decide +kernel
theorem dX8_numberAt_13 : decode cX8_numberAt 13 = .ok (.istore_n 3, 1) := by decide +kernel
theorem dX8_numberAt_14 : decode cX8_numberAt 14 = .ok (.iload_n 3, 1) := by decide +kernel
theorem dX8_numberAt_15 : decode cX8_numberAt 15 = .ok (.iconst (-1), 1) := by decide +kernel
theorem dX8_numberAt_16 : decode cX8_numberAt 16 = .ok (.if_icmp .ne 7, 3) := by decide +kernel
theorem dX8_numberAt_19 : decode cX8_numberAt 19 = .ok (.iload_n 2, 1) := by decide +kernel
theorem dX8_numberAt_20 : decode cX8_numberAt 20 = .ok (.goto 9, 3) := by decide +kernel
theorem dX8_numberAt_23 : decode cX8_numberAt 23 = .ok (.bipush 10, 2) := by decide +kernel
theorem dX8_numberAt_25 : decode cX8_numberAt 25 = .ok (.iload_n 2, 1) := by decide +kernel
theorem dX8_numberAt_26 : decode cX8_numberAt 26 = .ok (.imul, 1) := by decide +kernel
theorem dX8_numberAt_27 : decode cX8_numberAt 27 = .ok (.iload_n 3, 1) := by decide +kernel
theorem dX8_numberAt_28 : decode cX8_numberAt 28 = .ok (.iadd, 1) := by decide +kernel
theorem dX8_numberAt_29 : decode cX8_numberAt 29 = .ok (.ireturn, 1) := by decide +kernel
theorem dX8_copy_0 : decode cX8_copy 0 = .ok (.aload_n 1, 1) := by decide +kernel
theorem dX8_copy_1 : decode cX8_copy 1 = .ok (.getfield 9, 3) := by decide +kernel
theorem dX8_copy_4 : decode cX8_copy 4 = .ok (.iconst 0, 1) := by decide +kernel
theorem dX8_copy_5 : decode cX8_copy 5 = .ok (.aload_n 0, 1) := by decide +kernel
theorem dX8_copy_6 : decode cX8_copy 6 = .ok (.getfield 9, 3) := by decide +kernel
theorem dX8_copy_9 : decode cX8_copy 9 = .ok (.iconst 0, 1) := by decide +kernel
theorem dX8_copy_10 : decode cX8_copy 10 = .ok (.bipush 60, 2) := by decide +kernel
theorem dX8_copy_12 : decode cX8_copy 12 = .ok (.invokestatic 26, 3) := by decide +kernel
theorem dX8_copy_15 : decode cX8_copy 15 = .ok (.aload_n 0, 1) := by decide +kernel
theorem dX8_copy_16 : decode cX8_copy 16 = .ok (.aload_n 1, 1) := by decide +kernel
theorem dX8_copy_17 : decode cX8_copy 17 = .ok (.getfield 15, 3) := by decide +kernel
theorem dX8_copy_20 : decode cX8_copy 20 = .ok (.putfield 15, 3) := by decide +kernel
theorem dX8_copy_23 : decode cX8_copy 23 = .ok (.return_, 1) := by decide +kernel
theorem dX8_audiencesReferredTo_0 : decode cX8_audiencesReferredTo 0 = .ok (.iconst 0, 1) := by decide +kernel
theorem dX8_audiencesReferredTo_1 : decode cX8_audiencesReferredTo 1 = .ok (.istore_n 1, 1) := by decide +kernel
theorem dX8_audiencesReferredTo_2 : decode cX8_audiencesReferredTo 2 = .ok (.iconst 0, 1) := by decide +kernel
theorem dX8_audiencesReferredTo_3 : decode cX8_audiencesReferredTo 3 = .ok (.istore_n 2, 1) := by decide +kernel
theorem dX8_audiencesReferredTo_4 : decode cX8_audiencesReferredTo 4 = .ok (.iload_n 2, 1) := by decide +kernel
theorem dX8_audiencesReferredTo_5 : decode cX8_audiencesReferredTo 5 = .ok (.aload_n 0, 1) := by decide +kernel
theorem dX8_audiencesReferredTo_6 : decode cX8_audiencesReferredTo 6 = .ok (.getfield 15, 3) := by decide +kernel
theorem dX8_audiencesReferredTo_9 : decode cX8_audiencesReferredTo 9 = .ok (.if_icmp .ge 40, 3) := by decide +kernel
theorem dX8_audiencesReferredTo_12 : decode cX8_audiencesReferredTo 12 = .ok (.aload_n 0, 1) := by decide +kernel
theorem dX8_audiencesReferredTo_13 : decode cX8_audiencesReferredTo 13 = .ok (.iload_n 2, 1) := by decide +kernel
theorem dX8_audiencesReferredTo_14 : decode cX8_audiencesReferredTo 14 = .ok (.iconst 1, 1) := by decide +kernel
theorem dX8_audiencesReferredTo_15 : decode cX8_audiencesReferredTo 15 = .ok (.iadd, 1) := by decide +kernel
theorem dX8_audiencesReferredTo_16 : decode cX8_audiencesReferredTo 16 = .ok (.invokevirtual 23, 3) := by decide +kernel
theorem dX8_audiencesReferredTo_19 : decode cX8_audiencesReferredTo 19 = .ok (.istore_n 3, 1) := by decide +kernel
theorem dX8_audiencesReferredTo_20 : decode cX8_audiencesReferredTo 20 = .ok (.aload_n 0, 1) := by decide +kernel
theorem dX8_audiencesReferredTo_21 : decode cX8_audiencesReferredTo 21 = .ok (.getfield 9, 3) := by decide +kernel
theorem dX8_audiencesReferredTo_24 : decode cX8_audiencesReferredTo 24 = .ok (.iload_n 2, 1) := by decide +kernel
theorem dX8_audiencesReferredTo_25 : decode cX8_audiencesReferredTo 25 = .ok (.caload, 1) := by decide +kernel
theorem dX8_audiencesReferredTo_26 : decode cX8_audiencesReferredTo 26 = .ok (.bipush 64, 2) := by decide +kernel
theorem dX8_audiencesReferredTo_28 : decode cX8_audiencesReferredTo 28 = .ok (.if_icmp .ne 15, 3) := by decide +kernel
theorem dX8_audiencesReferredTo_31 : decode cX8_audiencesReferredTo 31 = .ok (.iload_n 3, 1) := by decide +kernel
theorem dX8_audiencesReferredTo_32 : decode cX8_audiencesReferredTo 32 = .ok (.iconst (-1), 1) := by decide +kernel
theorem dX8_audiencesReferredTo_33 : decode cX8_audiencesReferredTo 33 = .ok (.if_icmp .eq 10, 3) := by decide +kernel
theorem dX8_audiencesReferredTo_36 : decode cX8_audiencesReferredTo 36 = .ok (.iload_n 1, 1) := by decide +kernel
theorem dX8_audiencesReferredTo_37 : decode cX8_audiencesReferredTo 37 = .ok (.iload_n 3, 1) := by decide +kernel
theorem dX8_audiencesReferredTo_38 : decode cX8_audiencesReferredTo 38 = .ok (.iconst 1, 1) := by decide +kernel
theorem dX8_audiencesReferredTo_39 : decode cX8_audiencesReferredTo 39 = .ok (.invokestatic 32, 3) := by decide +kernel
theorem dX8_audiencesReferredTo_42 : decode cX8_audiencesReferredTo 42 = .ok (.istore_n 1, 1) := by decide +kernel
theorem dX8_audiencesReferredTo_43 : decode cX8_audiencesReferredTo 43 = .ok (.iinc 2 1, 3) := by decide +kernel
theorem dX8_audiencesReferredTo_46 : decode cX8_audiencesReferredTo 46 = .ok (.goto (-42), 3) := by decide +kernel
theorem dX8_audiencesReferredTo_49 : decode cX8_audiencesReferredTo 49 = .ok (.iload_n 1, 1) := by decide +kernel
theorem dX8_audiencesReferredTo_50 : decode cX8_audiencesReferredTo 50 = .ok (.ireturn, 1) := by decide +kernel
theorem dX9_init_0 : decode cX9_init 0 = .ok (.aload_n 0, 1) := by decide +kernel
theorem dX9_init_1 : decode cX9_init 1 = .ok (.invokespecial 3, 3) := by decide +kernel
theorem dX9_init_4 : decode cX9_init 4 = .ok (.aload_n 0, 1) := by decide +kernel
theorem dX9_init_5 : decode cX9_init 5 = .ok (.iconst 4, 1) := by decide +kernel
theorem dX9_init_6 : decode cX9_init 6 = .ok (.newarray .int, 2) := by decide +kernel
theorem dX9_init_8 : decode cX9_init 8 = .ok (.putfield 9, 3) := by decide +kernel
theorem dX9_init_11 : decode cX9_init 11 = .ok (.aload_n 0, 1) := by decide +kernel
theorem dX9_init_12 : decode cX9_init 12 = .ok (.iconst (-1), 1) := by decide +kernel
theorem dX9_init_13 : decode cX9_init 13 = .ok (.putfield 15, 3) := by decide +kernel
theorem dX9_init_16 : decode cX9_init 16 = .ok (.return_, 1) := by decide +kernel
theorem dX9_share_0 : decode cX9_share 0 = .ok (.aload_n 0, 1) := by decide +kernel
theorem dX9_share_1 : decode cX9_share 1 = .ok (.getfield 9, 3) := by decide +kernel
theorem dX9_share_4 : decode cX9_share 4 = .ok (.iconst 0, 1) := by decide +kernel
theorem dX9_share_5 : decode cX9_share 5 = .ok (.iload_n 1, 1) := by decide +kernel
theorem dX9_share_6 : decode cX9_share 6 = .ok (.iastore, 1) := by decide +kernel
theorem dX9_share_7 : decode cX9_share 7 = .ok (.aload_n 0, 1) := by decide +kernel
theorem dX9_share_8 : decode cX9_share 8 = .ok (.getfield 9, 3) := by decide +kernel
theorem dX9_share_11 : decode cX9_share 11 = .ok (.iconst 1, 1) := by decide +kernel
theorem dX9_share_12 : decode cX9_share 12 = .ok (.iload_n 2, 1) := by decide +kernel
theorem dX9_share_13 : decode cX9_share 13 = .ok (.iastore, 1) := by decide +kernel
theorem dX9_share_14 : decode cX9_share 14 = .ok (.aload_n 0, 1) := by decide +kernel
theorem dX9_share_15 : decode cX9_share 15 = .ok (.getfield 9, 3) := by decide +kernel
theorem dX9_share_18 : decode cX9_share 18 = .ok (.iconst 2, 1) := by decide +kernel
theorem dX9_share_19 : decode cX9_share 19 = .ok (.iload_n 3, 1) := by decide +kernel
theorem dX9_share_20 : decode cX9_share 20 = .ok (.iastore, 1) := by decide +kernel
theorem dX9_share_21 : decode cX9_share 21 = .ok (.aload_n 0, 1) := by decide +kernel
theorem dX9_share_22 : decode cX9_share 22 = .ok (.getfield 9, 3) := by decide +kernel
theorem dX9_share_25 : decode cX9_share 25 = .ok (.iconst 3, 1) := by decide +kernel
theorem dX9_share_26 : decode cX9_share 26 = .ok (.iload 4, 2) := by decide +kernel
theorem dX9_share_28 : decode cX9_share 28 = .ok (.iastore, 1) := by decide +kernel
theorem dX9_share_29 : decode cX9_share 29 = .ok (.return_, 1) := by decide +kernel
theorem dX9_sumOfShares_0 : decode cX9_sumOfShares 0 = .ok (.iconst 0, 1) := by decide +kernel
theorem dX9_sumOfShares_1 : decode cX9_sumOfShares 1 = .ok (.istore_n 1, 1) := by decide +kernel
theorem dX9_sumOfShares_2 : decode cX9_sumOfShares 2 = .ok (.aload_n 0, 1) := by decide +kernel
theorem dX9_sumOfShares_3 : decode cX9_sumOfShares 3 = .ok (.getfield 9, 3) := by decide +kernel
theorem dX9_sumOfShares_6 : decode cX9_sumOfShares 6 = .ok (.astore_n 2, 1) := by decide +kernel
theorem dX9_sumOfShares_7 : decode cX9_sumOfShares 7 = .ok (.aload_n 2, 1) := by decide +kernel
theorem dX9_sumOfShares_8 : decode cX9_sumOfShares 8 = .ok (.arraylength, 1) := by decide +kernel
theorem dX9_sumOfShares_9 : decode cX9_sumOfShares 9 = .ok (.istore_n 3, 1) := by decide +kernel
theorem dX9_sumOfShares_10 : decode cX9_sumOfShares 10 = .ok (.iconst 0, 1) := by decide +kernel
theorem dX9_sumOfShares_11 : decode cX9_sumOfShares 11 = .ok (.istore 4, 2) := by decide +kernel
theorem dX9_sumOfShares_13 : decode cX9_sumOfShares 13 = .ok (.iload 4, 2) := by decide +kernel
theorem dX9_sumOfShares_15 : decode cX9_sumOfShares 15 = .ok (.iload_n 3, 1) := by decide +kernel
theorem dX9_sumOfShares_16 : decode cX9_sumOfShares 16 = .ok (.if_icmp .ge 20, 3) := by decide +kernel
theorem dX9_sumOfShares_19 : decode cX9_sumOfShares 19 = .ok (.aload_n 2, 1) := by decide +kernel
theorem dX9_sumOfShares_20 : decode cX9_sumOfShares 20 = .ok (.iload 4, 2) := by decide +kernel
theorem dX9_sumOfShares_22 : decode cX9_sumOfShares 22 = .ok (.iaload, 1) := by decide +kernel
theorem dX9_sumOfShares_23 : decode cX9_sumOfShares 23 = .ok (.istore 5, 2) := by decide +kernel
theorem dX9_sumOfShares_25 : decode cX9_sumOfShares 25 = .ok (.iload_n 1, 1) := by decide +kernel
theorem dX9_sumOfShares_26 : decode cX9_sumOfShares 26 = .ok (.iload 5, 2) := by decide +kernel
theorem dX9_sumOfShares_28 : decode cX9_sumOfShares 28 = .ok (.iadd, 1) := by decide +kernel
theorem dX9_sumOfShares_29 : decode cX9_sumOfShares 29 = .ok (.istore_n 1, 1) := by decide +kernel
theorem dX9_sumOfShares_30 : decode cX9_sumOfShares 30 = .ok (.iinc 4 1, 3) := by decide +kernel
theorem dX9_sumOfShares_33 : decode cX9_sumOfShares 33 = .ok (.goto (-20), 3) := by decide +kernel
theorem dX9_sumOfShares_36 : decode cX9_sumOfShares 36 = .ok (.iload_n 1, 1) := by decide +kernel
theorem dX9_sumOfShares_37 : decode cX9_sumOfShares 37 = .ok (.ireturn, 1) := by decide +kernel
theorem dX9_armFor_0 : decode cX9_armFor 0 = .ok (.aload_n 0, 1) := by decide +kernel
theorem dX9_armFor_1 : decode cX9_armFor 1 = .ok (.getfield 15, 3) := by decide +kernel
theorem dX9_armFor_4 : decode cX9_armFor 4 = .ok (.iconst (-1), 1) := by decide +kernel
theorem dX9_armFor_5 : decode cX9_armFor 5 = .ok (.if_icmp .eq 8, 3) := by decide +kernel
theorem dX9_armFor_8 : decode cX9_armFor 8 = .ok (.aload_n 0, 1) := by decide +kernel
theorem dX9_armFor_9 : decode cX9_armFor 9 = .ok (.getfield 15, 3) := by decide +kernel
theorem dX9_armFor_12 : decode cX9_armFor 12 = .ok (.ireturn, 1) := by decide +kernel
theorem dX9_armFor_13 : decode cX9_armFor 13 = .ok (.iload_n 2, 1) := by decide +kernel
theorem dX9_armFor_14 : decode cX9_armFor 14 = .ok (.iconst (-1), 1) := by decide +kernel
theorem dX9_armFor_15 : decode cX9_armFor 15 = .ok (.if_icmp .eq 7, 3) := by decide +kernel
theorem dX9_armFor_18 : decode cX9_armFor 18 = .ok (.iload_n 2, 1) := by decide +kernel
theorem dX9_armFor_19 : decode cX9_armFor 19 = .ok (.goto 8, 3) := by decide +kernel
theorem dX9_armFor_22 : decode cX9_armFor 22 = .ok (.aload_n 0, 1) := by decide +kernel
theorem dX9_armFor_23 : decode cX9_armFor 23 = .ok (.iload_n 1, 1) := by decide +kernel
theorem dX9_armFor_24 : decode cX9_armFor 24 = .ok (.invokevirtual 19, 3) := by decide +kernel
theorem dX9_armFor_27 : decode cX9_armFor 27 = .ok (.ireturn, 1) := by decide +kernel
theorem dX9_drawArm_0 : decode cX9_drawArm 0 = .ok (.aload_n 0, 1) := by decide +kernel
theorem dX9_drawArm_1 : decode cX9_drawArm 1 = .ok (.invokevirtual 23, 3) := by decide +kernel
theorem dX9_drawArm_4 : decode cX9_drawArm 4 = .ok (.istore_n 2, 1) := by decide +kernel
theorem dX9_drawArm_5 : decode cX9_drawArm 5 = .ok (.iload_n 2, 1) := by decide +kernel
theorem dX9_drawArm_6 : decode cX9_drawArm 6 = .ok (.ifCond .gt 5, 3) := by decide +kernel
theorem dX9_drawArm_9 : decode cX9_drawArm 9 = .ok (.iconst 0, 1) := by decide +kernel
theorem dX9_drawArm_10 : decode cX9_drawArm 10 = .ok (.ireturn, 1) := by decide +kernel
theorem dX9_drawArm_11 : decode cX9_drawArm 11 = .ok (.sipush 7919, 3) := by decide +kernel
theorem dX9_drawArm_14 : decode cX9_drawArm 14 = .ok (.iload_n 1, 1) := by decide +kernel
theorem dX9_drawArm_15 : decode cX9_drawArm 15 = .ok (.imul, 1) := by decide +kernel
theorem dX9_drawArm_16 : decode cX9_drawArm 16 = .ok (.ldc 27, 2) := by decide +kernel
theorem dX9_drawArm_18 : decode cX9_drawArm 18 = .ok (.aload_n 0, 1) := by decide +kernel
theorem dX9_drawArm_19 : decode cX9_drawArm 19 = .ok (.getfield 28, 3) := by decide +kernel
theorem dX9_drawArm_22 : decode cX9_drawArm 22 = .ok (.imul, 1) := by decide +kernel
theorem dX9_drawArm_23 : decode cX9_drawArm 23 = .ok (.iadd, 1) := by decide +kernel
theorem dX9_drawArm_24 : decode cX9_drawArm 24 = .ok (.bipush 13, 2) := by decide +kernel
theorem dX9_drawArm_26 : decode cX9_drawArm 26 = .ok (.iadd, 1) := by decide +kernel
theorem dX9_drawArm_27 : decode cX9_drawArm 27 = .ok (.ldc 31, 2) := by decide +kernel
theorem dX9_drawArm_29 : decode cX9_drawArm 29 = .ok (.irem, 1) := by decide +kernel
theorem dX9_drawArm_30 : decode cX9_drawArm 30 = .ok (.iload_n 2, 1) := by decide +kernel
theorem dX9_drawArm_31 : decode cX9_drawArm 31 = .ok (.irem, 1) := by decide +kernel
theorem dX9_drawArm_32 : decode cX9_drawArm 32 = .ok (.istore_n 3, 1) := by decide +kernel
theorem dX9_drawArm_33 : decode cX9_drawArm 33 = .ok (.iconst 0, 1) := by decide +kernel
theorem dX9_drawArm_34 : decode cX9_drawArm 34 = .ok (.istore 4, 2) := by decide +kernel
theorem dX9_drawArm_36 : decode cX9_drawArm 36 = .ok (.aload_n 0, 1) := by decide +kernel
theorem dX9_drawArm_37 : decode cX9_drawArm 37 = .ok (.getfield 9, 3) := by decide +kernel
theorem dX9_drawArm_40 : decode cX9_drawArm 40 = .ok (.iconst 0, 1) := by decide +kernel
theorem dX9_drawArm_41 : decode cX9_drawArm 41 = .ok (.iaload, 1) := by decide +kernel
theorem dX9_drawArm_42 : decode cX9_drawArm 42 = .ok (.istore 5, 2) := by decide +kernel
theorem dX9_drawArm_44 : decode cX9_drawArm 44 = .ok (.iload 5, 2) := by decide +kernel
theorem dX9_drawArm_46 : decode cX9_drawArm 46 = .ok (.iload_n 3, 1) := by decide +kernel
theorem dX9_drawArm_47 : decode cX9_drawArm 47 = .ok (.if_icmp .gt 27, 3) := by decide +kernel
theorem dX9_drawArm_50 : decode cX9_drawArm 50 = .ok (.iload 4, 2) := by decide +kernel
theorem dX9_drawArm_52 : decode cX9_drawArm 52 = .ok (.iconst 3, 1) := by decide +kernel
theorem dX9_drawArm_53 : decode cX9_drawArm 53 = .ok (.if_icmp .ge 21, 3) := by decide +kernel
theorem dX9_drawArm_56 : decode cX9_drawArm 56 = .ok (.iinc 4 1, 3) := by decide +kernel
theorem dX9_drawArm_59 : decode cX9_drawArm 59 = .ok (.iload 5, 2) := by decide +kernel
theorem dX9_drawArm_61 : decode cX9_drawArm 61 = .ok (.aload_n 0, 1) := by decide +kernel
theorem dX9_drawArm_62 : decode cX9_drawArm 62 = .ok (.getfield 9, 3) := by decide +kernel
theorem dX9_drawArm_65 : decode cX9_drawArm 65 = .ok (.iload 4, 2) := by decide +kernel
theorem dX9_drawArm_67 : decode cX9_drawArm 67 = .ok (.iaload, 1) := by decide +kernel
theorem dX9_drawArm_68 : decode cX9_drawArm 68 = .ok (.iadd, 1) := by decide +kernel
theorem dX9_drawArm_69 : decode cX9_drawArm 69 = .ok (.istore 5, 2) := by decide +kernel
theorem dX9_drawArm_71 : decode cX9_drawArm 71 = .ok (.goto (-27), 3) := by decide +kernel
theorem dX9_drawArm_74 : decode cX9_drawArm 74 = .ok (.iload 4, 2) := by decide +kernel
theorem dX9_drawArm_76 : decode cX9_drawArm 76 = .ok (.ireturn, 1) := by decide +kernel
theorem dX10_init_0 : decode cX10_init 0 = .ok (.aload_n 0, 1) := by decide +kernel
theorem dX10_init_1 : decode cX10_init 1 = .ok (.invokespecial 3, 3) := by decide +kernel
theorem dX10_init_4 : decode cX10_init 4 = .ok (.aload_n 0, 1) := by decide +kernel
theorem dX10_init_5 : decode cX10_init 5 = .ok (.new 9, 3) := by decide +kernel
theorem dX10_init_8 : decode cX10_init 8 = .ok (.dup, 1) := by decide +kernel
theorem dX10_init_9 : decode cX10_init 9 = .ok (.invokespecial 11, 3) := by decide +kernel
theorem dX10_init_12 : decode cX10_init 12 = .ok (.putfield 12, 3) := by decide +kernel
theorem dX10_init_15 : decode cX10_init 15 = .ok (.aload_n 0, 1) := by decide +kernel
theorem dX10_init_16 : decode cX10_init 16 = .ok (.new 16, 3) := by decide +kernel
theorem dX10_init_19 : decode cX10_init 19 = .ok (.dup, 1) := by decide +kernel
theorem dX10_init_20 : decode cX10_init 20 = .ok (.invokespecial 18, 3) := by decide +kernel
theorem dX10_init_23 : decode cX10_init 23 = .ok (.putfield 19, 3) := by decide +kernel
theorem dX10_init_26 : decode cX10_init 26 = .ok (.aload_n 0, 1) := by decide +kernel
theorem dX10_init_27 : decode cX10_init 27 = .ok (.bipush 8, 2) := by decide +kernel
theorem dX10_init_29 : decode cX10_init 29 = .ok (.anewarray 23, 3) := by decide +kernel
theorem dX10_init_32 : decode cX10_init 32 = .ok (.putfield 25, 3) := by decide +kernel
theorem dX10_init_35 : decode cX10_init 35 = .ok (.aload_n 0, 1) := by decide +kernel
theorem dX10_init_36 : decode cX10_init 36 = .ok (.new 29, 3) := by decide +kernel
theorem dX10_init_39 : decode cX10_init 39 = .ok (.dup, 1) := by decide +kernel
theorem dX10_init_40 : decode cX10_init 40 = .ok (.bipush 8, 2) := by decide +kernel
theorem dX10_init_42 : decode cX10_init 42 = .ok (.invokespecial 31, 3) := by decide +kernel
theorem dX10_init_45 : decode cX10_init 45 = .ok (.putfield 34, 3) := by decide +kernel
theorem dX10_init_48 : decode cX10_init 48 = .ok (.aload_n 0, 1) := by decide +kernel
theorem dX10_init_49 : decode cX10_init 49 = .ok (.bipush 6, 2) := by decide +kernel
theorem dX10_init_51 : decode cX10_init 51 = .ok (.anewarray 38, 3) := by decide +kernel
theorem dX10_init_54 : decode cX10_init 54 = .ok (.putfield 40, 3) := by decide +kernel
theorem dX10_init_57 : decode cX10_init 57 = .ok (.aload_n 0, 1) := by decide +kernel
theorem dX10_init_58 : decode cX10_init 58 = .ok (.new 44, 3) := by decide +kernel
theorem dX10_init_61 : decode cX10_init 61 = .ok (.dup, 1) := by decide +kernel
theorem dX10_init_62 : decode cX10_init 62 = .ok (.invokespecial 46, 3) := by decide +kernel
theorem dX10_init_65 : decode cX10_init 65 = .ok (.putfield 47, 3) := by decide +kernel
theorem dX10_init_68 : decode cX10_init 68 = .ok (.aload_n 0, 1) := by decide +kernel
theorem dX10_init_69 : decode cX10_init 69 = .ok (.bipush 20, 2) := by decide +kernel
theorem dX10_init_71 : decode cX10_init 71 = .ok (.anewarray 51, 3) := by decide +kernel
theorem dX10_init_74 : decode cX10_init 74 = .ok (.putfield 53, 3) := by decide +kernel
theorem dX10_init_77 : decode cX10_init 77 = .ok (.aload_n 0, 1) := by decide +kernel
theorem dX10_init_78 : decode cX10_init 78 = .ok (.new 51, 3) := by decide +kernel
theorem dX10_init_81 : decode cX10_init 81 = .ok (.dup, 1) := by decide +kernel
theorem dX10_init_82 : decode cX10_init 82 = .ok (.invokespecial 57, 3) := by decide +kernel
theorem dX10_init_85 : decode cX10_init 85 = .ok (.putfield 58, 3) := by decide +kernel
theorem dX10_init_88 : decode cX10_init 88 = .ok (.aload_n 0, 1) := by decide +kernel
theorem dX10_init_89 : decode cX10_init 89 = .ok (.bipush 8, 2) := by decide +kernel
theorem dX10_init_91 : decode cX10_init 91 = .ok (.newarray .int, 2) := by decide +kernel
theorem dX10_init_93 : decode cX10_init 93 = .ok (.putfield 62, 3) := by decide +kernel
theorem dX10_init_96 : decode cX10_init 96 = .ok (.aload_n 0, 1) := by decide +kernel
theorem dX10_init_97 : decode cX10_init 97 = .ok (.bipush 8, 2) := by decide +kernel
theorem dX10_init_99 : decode cX10_init 99 = .ok (.newarray .int, 2) := by decide +kernel
theorem dX10_init_101 : decode cX10_init 101 = .ok (.putfield 66, 3) := by decide +kernel
theorem dX10_init_104 : decode cX10_init 104 = .ok (.iconst 0, 1) := by decide +kernel
theorem dX10_init_105 : decode cX10_init 105 = .ok (.istore_n 1, 1) := by decide +kernel
theorem dX10_init_106 : decode cX10_init 106 = .ok (.iload_n 1, 1) := by decide +kernel
theorem dX10_init_107 : decode cX10_init 107 = .ok (.bipush 20, 2) := by decide +kernel
theorem dX10_init_109 : decode cX10_init 109 = .ok (.if_icmp .ge 22, 3) := by decide +kernel
theorem dX10_init_112 : decode cX10_init 112 = .ok (.aload_n 0, 1) := by decide +kernel
theorem dX10_init_113 : decode cX10_init 113 = .ok (.getfield 53, 3) := by decide +kernel
theorem dX10_init_116 : decode cX10_init 116 = .ok (.iload_n 1, 1) := by decide +kernel
theorem dX10_init_117 : decode cX10_init 117 = .ok (.new 51, 3) := by decide +kernel
theorem dX10_init_120 : decode cX10_init 120 = .ok (.dup, 1) := by decide +kernel
theorem dX10_init_121 : decode cX10_init 121 = .ok (.invokespecial 57, 3) := by decide +kernel
theorem dX10_init_124 : decode cX10_init 124 = .ok (.aastore, 1) := by decide +kernel
theorem dX10_init_125 : decode cX10_init 125 = .ok (.iinc 1 1, 3) := by decide +kernel
theorem dX10_init_128 : decode cX10_init 128 = .ok (.goto (-22), 3) := by decide +kernel
theorem dX10_init_131 : decode cX10_init 131 = .ok (.iconst 0, 1) := by decide +kernel
theorem dX10_init_132 : decode cX10_init 132 = .ok (.istore_n 1, 1) := by decide +kernel
theorem dX10_init_133 : decode cX10_init 133 = .ok (.iload_n 1, 1) := by decide +kernel
theorem dX10_init_134 : decode cX10_init 134 = .ok (.bipush 8, 2) := by decide +kernel
theorem dX10_init_136 : decode cX10_init 136 = .ok (.if_icmp .ge 22, 3) := by decide +kernel
theorem dX10_init_139 : decode cX10_init 139 = .ok (.aload_n 0, 1) := by decide +kernel
theorem dX10_init_140 : decode cX10_init 140 = .ok (.getfield 25, 3) := by decide +kernel
theorem dX10_init_143 : decode cX10_init 143 = .ok (.iload_n 1, 1) := by decide +kernel
theorem dX10_init_144 : decode cX10_init 144 = .ok (.new 23, 3) := by decide +kernel
theorem dX10_init_147 : decode cX10_init 147 = .ok (.dup, 1) := by decide +kernel
theorem dX10_init_148 : decode cX10_init 148 = .ok (.invokespecial 69, 3) := by decide +kernel
theorem dX10_init_151 : decode cX10_init 151 = .ok (.aastore, 1) := by decide +kernel
theorem dX10_init_152 : decode cX10_init 152 = .ok (.iinc 1 1, 3) := by decide +kernel
theorem dX10_init_155 : decode cX10_init 155 = .ok (.goto (-22), 3) := by decide +kernel
theorem dX10_init_158 : decode cX10_init 158 = .ok (.iconst 0, 1) := by decide +kernel
theorem dX10_init_159 : decode cX10_init 159 = .ok (.istore_n 1, 1) := by decide +kernel
theorem dX10_init_160 : decode cX10_init 160 = .ok (.iload_n 1, 1) := by decide +kernel
theorem dX10_init_161 : decode cX10_init 161 = .ok (.bipush 6, 2) := by decide +kernel
theorem dX10_init_163 : decode cX10_init 163 = .ok (.if_icmp .ge 22, 3) := by decide +kernel
theorem dX10_init_166 : decode cX10_init 166 = .ok (.aload_n 0, 1) := by decide +kernel
theorem dX10_init_167 : decode cX10_init 167 = .ok (.getfield 40, 3) := by decide +kernel
theorem dX10_init_170 : decode cX10_init 170 = .ok (.iload_n 1, 1) := by decide +kernel
theorem dX10_init_171 : decode cX10_init 171 = .ok (.new 38, 3) := by decide +kernel
theorem dX10_init_174 : decode cX10_init 174 = .ok (.dup, 1) := by decide +kernel
theorem dX10_init_175 : decode cX10_init 175 = .ok (.invokespecial 70, 3) := by decide +kernel
theorem dX10_init_178 : decode cX10_init 178 = .ok (.aastore, 1) := by decide +kernel
theorem dX10_init_179 : decode cX10_init 179 = .ok (.iinc 1 1, 3) := by decide +kernel
theorem dX10_init_182 : decode cX10_init 182 = .ok (.goto (-22), 3) := by decide +kernel
theorem dX10_init_185 : decode cX10_init 185 = .ok (.return_, 1) := by decide +kernel
theorem dX10_setAttribute_0 : decode cX10_setAttribute 0 = .ok (.iload_n 1, 1) := by decide +kernel
theorem dX10_setAttribute_1 : decode cX10_setAttribute 1 = .ok (.invokestatic 71, 3) := by decide +kernel
theorem dX10_setAttribute_4 : decode cX10_setAttribute 4 = .ok (.iload_n 2, 1) := by decide +kernel
theorem dX10_setAttribute_5 : decode cX10_setAttribute 5 = .ok (.iconst 0, 1) := by decide +kernel
theorem dX10_setAttribute_6 : decode cX10_setAttribute 6 = .ok (.iconst 2, 1) := by decide +kernel
theorem dX10_setAttribute_7 : decode cX10_setAttribute 7 = .ok (.invokestatic 74, 3) := by decide +kernel
theorem dX10_setAttribute_10 : decode cX10_setAttribute 10 = .ok (.iload_n 3, 1) := by decide +kernel
theorem dX10_setAttribute_11 : decode cX10_setAttribute 11 = .ok (.iconst 0, 1) := by decide +kernel
theorem dX10_setAttribute_12 : decode cX10_setAttribute 12 = .ok (.iload_n 2, 1) := by decide +kernel
theorem dX10_setAttribute_13 : decode cX10_setAttribute 13 = .ok (.invokestatic 78, 3) := by decide +kernel
theorem dX10_setAttribute_16 : decode cX10_setAttribute 16 = .ok (.invokestatic 74, 3) := by decide +kernel
theorem dX10_setAttribute_19 : decode cX10_setAttribute 19 = .ok (.aload_n 0, 1) := by decide +kernel
theorem dX10_setAttribute_20 : decode cX10_setAttribute 20 = .ok (.getfield 12, 3) := by decide +kernel
theorem dX10_setAttribute_23 : decode cX10_setAttribute 23 = .ok (.getfield 82, 3) := by decide +kernel
theorem dX10_setAttribute_26 : decode cX10_setAttribute 26 = .ok (.iload_n 1, 1) := by decide +kernel
theorem dX10_setAttribute_27 : decode cX10_setAttribute 27 = .ok (.aaload, 1) := by decide +kernel
theorem dX10_setAttribute_28 : decode cX10_setAttribute 28 = .ok (.iload_n 2, 1) := by decide +kernel
theorem dX10_setAttribute_29 : decode cX10_setAttribute 29 = .ok (.iaload, 1) := by decide +kernel
theorem dX10_setAttribute_30 : decode cX10_setAttribute 30 = .ok (.istore 4, 2) := by decide +kernel
theorem dX10_setAttribute_32 : decode cX10_setAttribute 32 = .ok (.aload_n 0, 1) := by decide +kernel
theorem dX10_setAttribute_33 : decode cX10_setAttribute 33 = .ok (.getfield 12, 3) := by decide +kernel
theorem dX10_setAttribute_36 : decode cX10_setAttribute 36 = .ok (.getfield 82, 3) := by decide +kernel
theorem dX10_setAttribute_39 : decode cX10_setAttribute 39 = .ok (.iload_n 1, 1) := by decide +kernel
theorem dX10_setAttribute_40 : decode cX10_setAttribute 40 = .ok (.aaload, 1) := by decide +kernel
theorem dX10_setAttribute_41 : decode cX10_setAttribute 41 = .ok (.iload_n 2, 1) := by decide +kernel
theorem dX10_setAttribute_42 : decode cX10_setAttribute 42 = .ok (.iload_n 3, 1) := by decide +kernel
theorem dX10_setAttribute_43 : decode cX10_setAttribute 43 = .ok (.iastore, 1) := by decide +kernel
theorem dX10_setAttribute_44 : decode cX10_setAttribute 44 = .ok (.aload_n 0, 1) := by decide +kernel
theorem dX10_setAttribute_45 : decode cX10_setAttribute 45 = .ok (.getfield 19, 3) := by decide +kernel
theorem dX10_setAttribute_48 : decode cX10_setAttribute 48 = .ok (.aload_n 0, 1) := by decide +kernel
theorem dX10_setAttribute_49 : decode cX10_setAttribute 49 = .ok (.getfield 12, 3) := by decide +kernel
theorem dX10_setAttribute_52 : decode cX10_setAttribute 52 = .ok (.invokevirtual 86, 3) := by decide +kernel
theorem dX10_setAttribute_55 : decode cX10_setAttribute 55 = .ok (.iload 4, 2) := by decide +kernel
theorem dX10_setAttribute_57 : decode cX10_setAttribute 57 = .ok (.ireturn, 1) := by decide +kernel
theorem dX10_setTag_0 : decode cX10_setTag 0 = .ok (.iload_n 1, 1) := by decide +kernel
theorem dX10_setTag_1 : decode cX10_setTag 1 = .ok (.invokestatic 71, 3) := by decide +kernel
theorem dX10_setTag_4 : decode cX10_setTag 4 = .ok (.iload_n 2, 1) := by decide +kernel
theorem dX10_setTag_5 : decode cX10_setTag 5 = .ok (.iconst 0, 1) := by decide +kernel
theorem dX10_setTag_6 : decode cX10_setTag 6 = .ok (.bipush 7, 2) := by decide +kernel
theorem dX10_setTag_8 : decode cX10_setTag 8 = .ok (.invokestatic 74, 3) := by decide +kernel
theorem dX10_setTag_11 : decode cX10_setTag 11 = .ok (.aload_n 0, 1) := by decide +kernel
theorem dX10_setTag_12 : decode cX10_setTag 12 = .ok (.getfield 12, 3) := by decide +kernel
theorem dX10_setTag_15 : decode cX10_setTag 15 = .ok (.getfield 90, 3) := by decide +kernel
theorem dX10_setTag_18 : decode cX10_setTag 18 = .ok (.iload_n 1, 1) := by decide +kernel
theorem dX10_setTag_19 : decode cX10_setTag 19 = .ok (.iaload, 1) := by decide +kernel
theorem dX10_setTag_20 : decode cX10_setTag 20 = .ok (.iload_n 2, 1) := by decide +kernel
theorem dX10_setTag_21 : decode cX10_setTag 21 = .ok (.invokestatic 93, 3) := by decide +kernel
theorem dX10_setTag_24 : decode cX10_setTag 24 = .ok (.istore 4, 2) := by decide +kernel
theorem dX10_setTag_26 : decode cX10_setTag 26 = .ok (.aload_n 0, 1) := by decide +kernel
theorem dX10_setTag_27 : decode cX10_setTag 27 = .ok (.getfield 12, 3) := by decide +kernel
theorem dX10_setTag_30 : decode cX10_setTag 30 = .ok (.getfield 90, 3) := by decide +kernel
theorem dX10_setTag_33 : decode cX10_setTag 33 = .ok (.iload_n 1, 1) := by decide +kernel
theorem dX10_setTag_34 : decode cX10_setTag 34 = .ok (.aload_n 0, 1) := by decide +kernel
theorem dX10_setTag_35 : decode cX10_setTag 35 = .ok (.getfield 12, 3) := by decide +kernel
theorem dX10_setTag_38 : decode cX10_setTag 38 = .ok (.getfield 90, 3) := by decide +kernel
theorem dX10_setTag_41 : decode cX10_setTag 41 = .ok (.iload_n 1, 1) := by decide +kernel
theorem dX10_setTag_42 : decode cX10_setTag 42 = .ok (.iaload, 1) := by decide +kernel
theorem dX10_setTag_43 : decode cX10_setTag 43 = .ok (.iload_n 2, 1) := by decide +kernel
theorem dX10_setTag_44 : decode cX10_setTag 44 = .ok (.iload_n 3, 1) := by decide +kernel
theorem dX10_setTag_45 : decode cX10_setTag 45 = .ok (.invokestatic 97, 3) := by decide +kernel
theorem dX10_setTag_48 : decode cX10_setTag 48 = .ok (.iastore, 1) := by decide +kernel
theorem dX10_setTag_49 : decode cX10_setTag 49 = .ok (.aload_n 0, 1) := by decide +kernel
theorem dX10_setTag_50 : decode cX10_setTag 50 = .ok (.getfield 19, 3) := by decide +kernel
theorem dX10_setTag_53 : decode cX10_setTag 53 = .ok (.aload_n 0, 1) := by decide +kernel
theorem dX10_setTag_54 : decode cX10_setTag 54 = .ok (.getfield 12, 3) := by decide +kernel
theorem dX10_setTag_57 : decode cX10_setTag 57 = .ok (.invokevirtual 86, 3) := by decide +kernel
theorem dX10_setTag_60 : decode cX10_setTag 60 = .ok (.iload 4, 2) := by decide +kernel
theorem dX10_setTag_62 : decode cX10_setTag 62 = .ok (.ireturn, 1) := by decide +kernel
theorem dX10_type_0 : decode cX10_type 0 = .ok (.iload_n 1, 1) := by decide +kernel
theorem dX10_type_1 : decode cX10_type 1 = .ok (.invokestatic 101, 3) := by decide +kernel
theorem dX10_type_4 : decode cX10_type 4 = .ok (.iload_n 2, 1) := by decide +kernel
theorem dX10_type_5 : decode cX10_type 5 = .ok (.bipush 33, 2) := by decide +kernel
theorem dX10_type_7 : decode cX10_type 7 = .ok (.bipush 126, 2) := by decide +kernel
theorem dX10_type_9 : decode cX10_type 9 = .ok (.invokestatic 74, 3) := by decide +kernel
theorem dX10_type_12 : decode cX10_type 12 = .ok (.aload_n 0, 1) := by decide +kernel
theorem dX10_type_13 : decode cX10_type 13 = .ok (.getfield 19, 3) := by decide +kernel
theorem dX10_type_16 : decode cX10_type 16 = .ok (.getfield 104, 3) := by decide +kernel
theorem dX10_type_19 : decode cX10_type 19 = .ok (.iload_n 1, 1) := by decide +kernel
theorem dX10_type_20 : decode cX10_type 20 = .ok (.aaload, 1) := by decide +kernel
theorem dX10_type_21 : decode cX10_type 21 = .ok (.astore_n 3, 1) := by decide +kernel
theorem dX10_type_22 : decode cX10_type 22 = .ok (.aload_n 3, 1) := by decide +kernel
theorem dX10_type_23 : decode cX10_type 23 = .ok (.getfield 108, 3) := by decide +kernel
theorem dX10_type_26 : decode cX10_type 26 = .ok (.bipush 60, 2) := by decide +kernel
theorem dX10_type_28 : decode cX10_type 28 = .ok (.if_icmp .lt 13, 3) := by decide +kernel
theorem dX10_type_31 : decode cX10_type 31 = .ok (.new 114, 3) := by decide +kernel
theorem dX10_type_34 : decode cX10_type 34 = .ok (.dup, 1) := by decide +kernel
theorem dX10_type_35 : decode cX10_type 35 = .ok (.ldc 116, 2) := by decide +kernel
theorem dX10_type_37 : decode cX10_type 37 = .ok (.invokespecial 118, 3) := by decide +kernel
theorem dX10_type_40 : decode cX10_type 40 = .ok (.athrow, 1) := by decide +kernel
theorem dX10_type_41 : decode cX10_type 41 = .ok (.aload_n 3, 1) := by decide +kernel
theorem dX10_type_42 : decode cX10_type 42 = .ok (.iload_n 2, 1) := by decide +kernel
theorem dX10_type_43 : decode cX10_type 43 = .ok (.invokevirtual 121, 3) := by decide +kernel
theorem dX10_type_46 : decode cX10_type 46 = .ok (.aload_n 3, 1) := by decide +kernel
theorem dX10_type_47 : decode cX10_type 47 = .ok (.getfield 108, 3) := by decide +kernel
theorem dX10_type_50 : decode cX10_type 50 = .ok (.ireturn, 1) := by decide +kernel
theorem dX10_erase_0 : decode cX10_erase 0 = .ok (.iload_n 1, 1) := by decide +kernel
theorem dX10_erase_1 : decode cX10_erase 1 = .ok (.invokestatic 101, 3) := by decide +kernel
theorem dX10_erase_4 : decode cX10_erase 4 = .ok (.iload_n 2, 1) := by decide +kernel
theorem dX10_erase_5 : decode cX10_erase 5 = .ok (.iconst 1, 1) := by decide +kernel
theorem dX10_erase_6 : decode cX10_erase 6 = .ok (.if_icmp .ge 13, 3) := by decide +kernel
theorem dX10_erase_9 : decode cX10_erase 9 = .ok (.new 124, 3) := by decide +kernel
theorem dX10_erase_12 : decode cX10_erase 12 = .ok (.dup, 1) := by decide +kernel
theorem dX10_erase_13 : decode cX10_erase 13 = .ok (.ldc 126, 2) := by decide +kernel
theorem dX10_erase_15 : decode cX10_erase 15 = .ok (.invokespecial 128, 3) := by decide +kernel
theorem dX10_erase_18 : decode cX10_erase 18 = .ok (.athrow, 1) := by decide +kernel
theorem dX10_erase_19 : decode cX10_erase 19 = .ok (.aload_n 0, 1) := by decide +kernel
theorem dX10_erase_20 : decode cX10_erase 20 = .ok (.getfield 19, 3) := by decide +kernel
theorem dX10_erase_23 : decode cX10_erase 23 = .ok (.getfield 104, 3) := by decide +kernel
theorem dX10_erase_26 : decode cX10_erase 26 = .ok (.iload_n 1, 1) := by decide +kernel
theorem dX10_erase_27 : decode cX10_erase 27 = .ok (.aaload, 1) := by decide +kernel
theorem dX10_erase_28 : decode cX10_erase 28 = .ok (.astore_n 3, 1) := by decide +kernel
theorem dX10_erase_29 : decode cX10_erase 29 = .ok (.aload_n 3, 1) := by decide +kernel
theorem dX10_erase_30 : decode cX10_erase 30 = .ok (.iconst 0, 1) := by decide +kernel
theorem dX10_erase_31 : decode cX10_erase 31 = .ok (.aload_n 3, 1) := by decide +kernel
theorem dX10_erase_32 : decode cX10_erase 32 = .ok (.getfield 108, 3) := by decide +kernel
theorem dX10_erase_35 : decode cX10_erase 35 = .ok (.iload_n 2, 1) := by decide +kernel
theorem dX10_erase_36 : decode cX10_erase 36 = .ok (.isub, 1) := by decide +kernel
theorem dX10_erase_37 : decode cX10_erase 37 = .ok (.invokestatic 129, 3) := by decide +kernel
theorem dX10_erase_40 : decode cX10_erase 40 = .ok (.putfield 108, 3) := by decide +kernel
theorem dX10_erase_43 : decode cX10_erase 43 = .ok (.aload_n 3, 1) := by decide +kernel
theorem dX10_erase_44 : decode cX10_erase 44 = .ok (.getfield 108, 3) := by decide +kernel
theorem dX10_erase_47 : decode cX10_erase 47 = .ok (.ireturn, 1) := by decide +kernel
theorem dX10_fault_0 : decode cX10_fault 0 = .ok (.iload_n 1, 1) := by decide +kernel
theorem dX10_fault_1 : decode cX10_fault 1 = .ok (.invokestatic 101, 3) := by decide +kernel
theorem dX10_fault_4 : decode cX10_fault 4 = .ok (.aload_n 0, 1) := by decide +kernel
theorem dX10_fault_5 : decode cX10_fault 5 = .ok (.getfield 19, 3) := by decide +kernel
theorem dX10_fault_8 : decode cX10_fault 8 = .ok (.iload_n 1, 1) := by decide +kernel
theorem dX10_fault_9 : decode cX10_fault 9 = .ok (.invokevirtual 143, 3) := by decide +kernel
theorem dX10_fault_12 : decode cX10_fault 12 = .ok (.ireturn, 1) := by decide +kernel
theorem dX10_set_0 : decode cX10_set 0 = .ok (.iload_n 1, 1) := by decide +kernel
theorem dX10_set_1 : decode cX10_set 1 = .ok (.invokestatic 101, 3) := by decide +kernel
theorem dX10_set_4 : decode cX10_set 4 = .ok (.aload_n 0, 1) := by decide +kernel
theorem dX10_set_5 : decode cX10_set 5 = .ok (.iload_n 1, 1) := by decide +kernel
theorem dX10_set_6 : decode cX10_set 6 = .ok (.invokevirtual 146, 3) := by decide +kernel
theorem dX10_set_9 : decode cX10_set 9 = .ok (.aload_n 0, 1) := by decide +kernel
theorem dX10_set_10 : decode cX10_set 10 = .ok (.getfield 19, 3) := by decide +kernel
theorem dX10_set_13 : decode cX10_set 13 = .ok (.iload_n 1, 1) := by decide +kernel
theorem dX10_set_14 : decode cX10_set 14 = .ok (.aload_n 0, 1) := by decide +kernel
theorem dX10_set_15 : decode cX10_set 15 = .ok (.getfield 12, 3) := by decide +kernel
theorem dX10_set_18 : decode cX10_set 18 = .ok (.invokevirtual 149, 3) := by decide +kernel
theorem dX10_set_21 : decode cX10_set 21 = .ok (.aload_n 0, 1) := by decide +kernel
theorem dX10_set_22 : decode cX10_set 22 = .ok (.getfield 19, 3) := by decide +kernel
theorem dX10_set_25 : decode cX10_set 25 = .ok (.getfield 153, 3) := by decide +kernel
theorem dX10_set_28 : decode cX10_set 28 = .ok (.iload_n 1, 1) := by decide +kernel
theorem dX10_set_29 : decode cX10_set 29 = .ok (.iaload, 1) := by decide +kernel
theorem dX10_set_30 : decode cX10_set 30 = .ok (.aload_n 0, 1) := by decide +kernel
theorem dX10_set_31 : decode cX10_set 31 = .ok (.getfield 19, 3) := by decide +kernel
theorem dX10_set_34 : decode cX10_set 34 = .ok (.getfield 156, 3) := by decide +kernel
theorem dX10_set_37 : decode cX10_set 37 = .ok (.iload_n 1, 1) := by decide +kernel
theorem dX10_set_38 : decode cX10_set 38 = .ok (.iaload, 1) := by decide +kernel
theorem dX10_set_39 : decode cX10_set 39 = .ok (.ixor, 1) := by decide +kernel
theorem dX10_set_40 : decode cX10_set 40 = .ok (.istore_n 2, 1) := by decide +kernel
theorem dX10_set_41 : decode cX10_set 41 = .ok (.aload_n 0, 1) := by decide +kernel
theorem dX10_set_42 : decode cX10_set 42 = .ok (.getfield 19, 3) := by decide +kernel
theorem dX10_set_45 : decode cX10_set 45 = .ok (.iload_n 1, 1) := by decide +kernel
theorem dX10_set_46 : decode cX10_set 46 = .ok (.invokevirtual 159, 3) := by decide +kernel
theorem dX10_set_49 : decode cX10_set 49 = .ok (.iload_n 2, 1) := by decide +kernel
theorem dX10_set_50 : decode cX10_set 50 = .ok (.invokestatic 162, 3) := by decide +kernel
theorem dX10_set_53 : decode cX10_set 53 = .ok (.ireturn, 1) := by decide +kernel
theorem dX10_wouldMove_0 : decode cX10_wouldMove 0 = .ok (.iload_n 1, 1) := by decide +kernel
theorem dX10_wouldMove_1 : decode cX10_wouldMove 1 = .ok (.invokestatic 101, 3) := by decide +kernel
theorem dX10_wouldMove_4 : decode cX10_wouldMove 4 = .ok (.aload_n 0, 1) := by decide +kernel
theorem dX10_wouldMove_5 : decode cX10_wouldMove 5 = .ok (.iload_n 1, 1) := by decide +kernel
theorem dX10_wouldMove_6 : decode cX10_wouldMove 6 = .ok (.invokevirtual 146, 3) := by decide +kernel
theorem dX10_wouldMove_9 : decode cX10_wouldMove 9 = .ok (.aload_n 0, 1) := by decide +kernel
theorem dX10_wouldMove_10 : decode cX10_wouldMove 10 = .ok (.getfield 19, 3) := by decide +kernel
theorem dX10_wouldMove_13 : decode cX10_wouldMove 13 = .ok (.iload_n 1, 1) := by decide +kernel
theorem dX10_wouldMove_14 : decode cX10_wouldMove 14 = .ok (.aload_n 0, 1) := by decide +kernel
theorem dX10_wouldMove_15 : decode cX10_wouldMove 15 = .ok (.getfield 12, 3) := by decide +kernel
theorem dX10_wouldMove_18 : decode cX10_wouldMove 18 = .ok (.invokevirtual 149, 3) := by decide +kernel
theorem dX10_wouldMove_21 : decode cX10_wouldMove 21 = .ok (.iconst 0, 1) := by decide +kernel
theorem dX10_wouldMove_22 : decode cX10_wouldMove 22 = .ok (.istore_n 2, 1) := by decide +kernel
theorem dX10_wouldMove_23 : decode cX10_wouldMove 23 = .ok (.iconst 0, 1) := by decide +kernel
theorem dX10_wouldMove_24 : decode cX10_wouldMove 24 = .ok (.istore_n 3, 1) := by decide +kernel
theorem dX10_wouldMove_25 : decode cX10_wouldMove 25 = .ok (.iload_n 3, 1) := by decide +kernel
theorem dX10_wouldMove_26 : decode cX10_wouldMove 26 = .ok (.bipush 20, 2) := by decide +kernel
theorem dX10_wouldMove_28 : decode cX10_wouldMove 28 = .ok (.if_icmp .ge 70, 3) := by decide +kernel
theorem dX10_wouldMove_31 : decode cX10_wouldMove 31 = .ok (.aload_n 0, 1) := by decide +kernel
theorem dX10_wouldMove_32 : decode cX10_wouldMove 32 = .ok (.aload_n 0, 1) := by decide +kernel
theorem dX10_wouldMove_33 : decode cX10_wouldMove 33 = .ok (.getfield 62, 3) := by decide +kernel
theorem dX10_wouldMove_36 : decode cX10_wouldMove 36 = .ok (.iload_n 3, 1) := by decide +kernel
theorem dX10_wouldMove_37 : decode cX10_wouldMove 37 = .ok (.aload_n 0, 1) := by decide +kernel
theorem dX10_wouldMove_38 : decode cX10_wouldMove 38 = .ok (.getfield 19, 3) := by decide +kernel
theorem dX10_wouldMove_41 : decode cX10_wouldMove 41 = .ok (.getfield 153, 3) := by decide +kernel
theorem dX10_wouldMove_44 : decode cX10_wouldMove 44 = .ok (.aload_n 0, 1) := by decide +kernel
theorem dX10_wouldMove_45 : decode cX10_wouldMove 45 = .ok (.getfield 53, 3) := by decide +kernel
theorem dX10_wouldMove_48 : decode cX10_wouldMove 48 = .ok (.iload_n 3, 1) := by decide +kernel
theorem dX10_wouldMove_49 : decode cX10_wouldMove 49 = .ok (.aaload, 1) := by decide +kernel
theorem dX10_wouldMove_50 : decode cX10_wouldMove 50 = .ok (.invokevirtual 167, 3) := by decide +kernel
theorem dX10_wouldMove_53 : decode cX10_wouldMove 53 = .ok (.aload_n 0, 1) := by decide +kernel
theorem dX10_wouldMove_54 : decode cX10_wouldMove 54 = .ok (.aload_n 0, 1) := by decide +kernel
theorem dX10_wouldMove_55 : decode cX10_wouldMove 55 = .ok (.getfield 66, 3) := by decide +kernel
theorem dX10_wouldMove_58 : decode cX10_wouldMove 58 = .ok (.iload_n 3, 1) := by decide +kernel
theorem dX10_wouldMove_59 : decode cX10_wouldMove 59 = .ok (.aload_n 0, 1) := by decide +kernel
theorem dX10_wouldMove_60 : decode cX10_wouldMove 60 = .ok (.getfield 19, 3) := by decide +kernel
theorem dX10_wouldMove_63 : decode cX10_wouldMove 63 = .ok (.getfield 156, 3) := by decide +kernel
theorem dX10_wouldMove_66 : decode cX10_wouldMove 66 = .ok (.aload_n 0, 1) := by decide +kernel
theorem dX10_wouldMove_67 : decode cX10_wouldMove 67 = .ok (.getfield 53, 3) := by decide +kernel
theorem dX10_wouldMove_70 : decode cX10_wouldMove 70 = .ok (.iload_n 3, 1) := by decide +kernel
theorem dX10_wouldMove_71 : decode cX10_wouldMove 71 = .ok (.aaload, 1) := by decide +kernel
theorem dX10_wouldMove_72 : decode cX10_wouldMove 72 = .ok (.invokevirtual 167, 3) := by decide +kernel
theorem dX10_wouldMove_75 : decode cX10_wouldMove 75 = .ok (.aload_n 0, 1) := by decide +kernel
theorem dX10_wouldMove_76 : decode cX10_wouldMove 76 = .ok (.getfield 62, 3) := by decide +kernel
theorem dX10_wouldMove_79 : decode cX10_wouldMove 79 = .ok (.aload_n 0, 1) := by decide +kernel
theorem dX10_wouldMove_80 : decode cX10_wouldMove 80 = .ok (.getfield 66, 3) := by decide +kernel
theorem dX10_wouldMove_83 : decode cX10_wouldMove 83 = .ok (.invokestatic 171, 3) := by decide +kernel
theorem dX10_wouldMove_86 : decode cX10_wouldMove 86 = .ok (.ifCond .eq 6, 3) := by decide +kernel
theorem dX10_wouldMove_89 : decode cX10_wouldMove 89 = .ok (.iinc 2 1, 3) := by decide +kernel
theorem dX10_wouldMove_92 : decode cX10_wouldMove 92 = .ok (.iinc 3 1, 3) := by decide +kernel
theorem dX10_wouldMove_95 : decode cX10_wouldMove 95 = .ok (.goto (-70), 3) := by decide +kernel
theorem dX10_wouldMove_98 : decode cX10_wouldMove 98 = .ok (.iload_n 2, 1) := by decide +kernel
theorem dX10_wouldMove_99 : decode cX10_wouldMove 99 = .ok (.ireturn, 1) := by decide +kernel
theorem dX10_isIn_0 : decode cX10_isIn 0 = .ok (.iload_n 1, 1) := by decide +kernel
theorem dX10_isIn_1 : decode cX10_isIn 1 = .ok (.invokestatic 101, 3) := by decide +kernel
theorem dX10_isIn_4 : decode cX10_isIn 4 = .ok (.iload_n 2, 1) := by decide +kernel
theorem dX10_isIn_5 : decode cX10_isIn 5 = .ok (.invokestatic 71, 3) := by decide +kernel
theorem dX10_isIn_8 : decode cX10_isIn 8 = .ok (.aload_n 0, 1) := by decide +kernel
theorem dX10_isIn_9 : decode cX10_isIn 9 = .ok (.getfield 19, 3) := by decide +kernel
theorem dX10_isIn_12 : decode cX10_isIn 12 = .ok (.getfield 153, 3) := by decide +kernel
theorem dX10_isIn_15 : decode cX10_isIn 15 = .ok (.iload_n 1, 1) := by decide +kernel
theorem dX10_isIn_16 : decode cX10_isIn 16 = .ok (.iaload, 1) := by decide +kernel
theorem dX10_isIn_17 : decode cX10_isIn 17 = .ok (.iload_n 2, 1) := by decide +kernel
theorem dX10_isIn_18 : decode cX10_isIn 18 = .ok (.invokestatic 93, 3) := by decide +kernel
theorem dX10_isIn_21 : decode cX10_isIn 21 = .ok (.ireturn, 1) := by decide +kernel
theorem dX10_addRule_0 : decode cX10_addRule 0 = .ok (.iload_n 1, 1) := by decide +kernel
theorem dX10_addRule_1 : decode cX10_addRule 1 = .ok (.invokestatic 175, 3) := by decide +kernel
theorem dX10_addRule_4 : decode cX10_addRule 4 = .ok (.iload_n 3, 1) := by decide +kernel
theorem dX10_addRule_5 : decode cX10_addRule 5 = .ok (.invokestatic 101, 3) := by decide +kernel
theorem dX10_addRule_8 : decode cX10_addRule 8 = .ok (.iload 4, 2) := by decide +kernel
theorem dX10_addRule_10 : decode cX10_addRule 10 = .ok (.iconst 0, 1) := by decide +kernel
theorem dX10_addRule_11 : decode cX10_addRule 11 = .ok (.bipush 9, 2) := by decide +kernel
theorem dX10_addRule_13 : decode cX10_addRule 13 = .ok (.invokestatic 74, 3) := by decide +kernel
theorem dX10_addRule_16 : decode cX10_addRule 16 = .ok (.aload_n 0, 1) := by decide +kernel
theorem dX10_addRule_17 : decode cX10_addRule 17 = .ok (.getfield 25, 3) := by decide +kernel
theorem dX10_addRule_20 : decode cX10_addRule 20 = .ok (.iload_n 1, 1) := by decide +kernel
theorem dX10_addRule_21 : decode cX10_addRule 21 = .ok (.aaload, 1) := by decide +kernel
theorem dX10_addRule_22 : decode cX10_addRule 22 = .ok (.astore 5, 2) := by decide +kernel
theorem dX10_addRule_24 : decode cX10_addRule 24 = .ok (.iload_n 2, 1) := by decide +kernel
theorem dX10_addRule_25 : decode cX10_addRule 25 = .ok (.ifCond .lt 12, 3) := by decide +kernel
theorem dX10_addRule_28 : decode cX10_addRule 28 = .ok (.iload_n 2, 1) := by decide +kernel
theorem dX10_addRule_29 : decode cX10_addRule 29 = .ok (.aload 5, 2) := by decide +kernel
theorem dX10_addRule_31 : decode cX10_addRule 31 = .ok (.getfield 178, 3) := by decide +kernel
theorem dX10_addRule_34 : decode cX10_addRule 34 = .ok (.if_icmp .le 13, 3) := by decide +kernel
theorem dX10_addRule_37 : decode cX10_addRule 37 = .ok (.new 135, 3) := by decide +kernel
theorem dX10_addRule_40 : decode cX10_addRule 40 = .ok (.dup, 1) := by decide +kernel
theorem dX10_addRule_41 : decode cX10_addRule 41 = .ok (.ldc 181, 2) := by decide +kernel
theorem dX10_addRule_43 : decode cX10_addRule 43 = .ok (.invokespecial 139, 3) := by decide +kernel
theorem dX10_addRule_46 : decode cX10_addRule 46 = .ok (.athrow, 1) := by decide +kernel
theorem dX10_addRule_47 : decode cX10_addRule 47 = .ok (.aload 5, 2) := by decide +kernel
theorem dX10_addRule_49 : decode cX10_addRule 49 = .ok (.getfield 178, 3) := by decide +kernel
theorem dX10_addRule_52 : decode cX10_addRule 52 = .ok (.iconst 5, 1) := by decide +kernel
theorem dX10_addRule_53 : decode cX10_addRule 53 = .ok (.if_icmp .lt 13, 3) := by decide +kernel
theorem dX10_addRule_56 : decode cX10_addRule 56 = .ok (.new 114, 3) := by decide +kernel
theorem dX10_addRule_59 : decode cX10_addRule 59 = .ok (.dup, 1) := by decide +kernel
theorem dX10_addRule_60 : decode cX10_addRule 60 = .ok (.ldc 183, 2) := by decide +kernel
theorem dX10_addRule_62 : decode cX10_addRule 62 = .ok (.invokespecial 118, 3) := by decide +kernel
theorem dX10_addRule_65 : decode cX10_addRule 65 = .ok (.athrow, 1) := by decide +kernel
theorem dX10_addRule_66 : decode cX10_addRule 66 = .ok (.aload 5, 2) := by decide +kernel
theorem dX10_addRule_68 : decode cX10_addRule 68 = .ok (.iload_n 2, 1) := by decide +kernel
theorem dX10_addRule_69 : decode cX10_addRule 69 = .ok (.iload_n 3, 1) := by decide +kernel
theorem dX10_addRule_70 : decode cX10_addRule 70 = .ok (.iload 4, 2) := by decide +kernel
theorem dX10_addRule_72 : decode cX10_addRule 72 = .ok (.invokevirtual 185, 3) := by decide +kernel
theorem dX10_addRule_75 : decode cX10_addRule 75 = .ok (.aload 5, 2) := by decide +kernel
theorem dX10_addRule_77 : decode cX10_addRule 77 = .ok (.getfield 178, 3) := by decide +kernel
theorem dX10_addRule_80 : decode cX10_addRule 80 = .ok (.ireturn, 1) := by decide +kernel
theorem dX10_removeRule_0 : decode cX10_removeRule 0 = .ok (.iload_n 1, 1) := by decide +kernel
theorem dX10_removeRule_1 : decode cX10_removeRule 1 = .ok (.invokestatic 175, 3) := by decide +kernel
theorem dX10_removeRule_4 : decode cX10_removeRule 4 = .ok (.aload_n 0, 1) := by decide +kernel
theorem dX10_removeRule_5 : decode cX10_removeRule 5 = .ok (.getfield 25, 3) := by decide +kernel
theorem dX10_removeRule_8 : decode cX10_removeRule 8 = .ok (.iload_n 1, 1) := by decide +kernel
theorem dX10_removeRule_9 : decode cX10_removeRule 9 = .ok (.aaload, 1) := by decide +kernel
theorem dX10_removeRule_10 : decode cX10_removeRule 10 = .ok (.astore_n 3, 1) := by decide +kernel
theorem dX10_removeRule_11 : decode cX10_removeRule 11 = .ok (.iload_n 2, 1) := by decide +kernel
theorem dX10_removeRule_12 : decode cX10_removeRule 12 = .ok (.ifCond .lt 11, 3) := by decide +kernel
theorem dX10_removeRule_15 : decode cX10_removeRule 15 = .ok (.iload_n 2, 1) := by decide +kernel
theorem dX10_removeRule_16 : decode cX10_removeRule 16 = .ok (.aload_n 3, 1) := by decide +kernel
theorem dX10_removeRule_17 : decode cX10_removeRule 17 = .ok (.getfield 178, 3) := by decide +kernel
theorem dX10_removeRule_20 : decode cX10_removeRule 20 = .ok (.if_icmp .lt 13, 3) := by decide +kernel
theorem dX10_removeRule_23 : decode cX10_removeRule 23 = .ok (.new 135, 3) := by decide +kernel
theorem dX10_removeRule_26 : decode cX10_removeRule 26 = .ok (.dup, 1) := by decide +kernel
theorem dX10_removeRule_27 : decode cX10_removeRule 27 = .ok (.ldc 188, 2) := by decide +kernel
theorem dX10_removeRule_29 : decode cX10_removeRule 29 = .ok (.invokespecial 139, 3) := by decide +kernel
theorem dX10_removeRule_32 : decode cX10_removeRule 32 = .ok (.athrow, 1) := by decide +kernel
theorem dX10_removeRule_33 : decode cX10_removeRule 33 = .ok (.aload_n 3, 1) := by decide +kernel
theorem dX10_removeRule_34 : decode cX10_removeRule 34 = .ok (.iload_n 2, 1) := by decide +kernel
theorem dX10_removeRule_35 : decode cX10_removeRule 35 = .ok (.invokevirtual 190, 3) := by decide +kernel
theorem dX10_removeRule_38 : decode cX10_removeRule 38 = .ok (.istore 4, 2) := by decide +kernel
theorem dX10_removeRule_40 : decode cX10_removeRule 40 = .ok (.aload_n 3, 1) := by decide +kernel
theorem dX10_removeRule_41 : decode cX10_removeRule 41 = .ok (.iload_n 2, 1) := by decide +kernel
theorem dX10_removeRule_42 : decode cX10_removeRule 42 = .ok (.invokevirtual 193, 3) := by decide +kernel
theorem dX10_removeRule_45 : decode cX10_removeRule 45 = .ok (.iload 4, 2) := by decide +kernel
theorem dX10_removeRule_47 : decode cX10_removeRule 47 = .ok (.ireturn, 1) := by decide +kernel
theorem dX10_rules_0 : decode cX10_rules 0 = .ok (.iload_n 1, 1) := by decide +kernel
theorem dX10_rules_1 : decode cX10_rules 1 = .ok (.invokestatic 175, 3) := by decide +kernel
theorem dX10_rules_4 : decode cX10_rules 4 = .ok (.aload_n 0, 1) := by decide +kernel
theorem dX10_rules_5 : decode cX10_rules 5 = .ok (.getfield 25, 3) := by decide +kernel
theorem dX10_rules_8 : decode cX10_rules 8 = .ok (.iload_n 1, 1) := by decide +kernel
theorem dX10_rules_9 : decode cX10_rules 9 = .ok (.aaload, 1) := by decide +kernel
theorem dX10_rules_10 : decode cX10_rules 10 = .ok (.getfield 178, 3) := by decide +kernel
theorem dX10_rules_13 : decode cX10_rules 13 = .ok (.ireturn, 1) := by decide +kernel
theorem dX10_setNeed_0 : decode cX10_setNeed 0 = .ok (.iload_n 1, 1) := by decide +kernel
theorem dX10_setNeed_1 : decode cX10_setNeed 1 = .ok (.invokestatic 175, 3) := by decide +kernel
theorem dX10_setNeed_4 : decode cX10_setNeed 4 = .ok (.iload_n 2, 1) := by decide +kernel
theorem dX10_setNeed_5 : decode cX10_setNeed 5 = .ok (.invokestatic 175, 3) := by decide +kernel
theorem dX10_setNeed_8 : decode cX10_setNeed 8 = .ok (.iload_n 1, 1) := by decide +kernel
theorem dX10_setNeed_9 : decode cX10_setNeed 9 = .ok (.iload_n 2, 1) := by decide +kernel
theorem dX10_setNeed_10 : decode cX10_setNeed 10 = .ok (.if_icmp .ne 13, 3) := by decide +kernel
theorem dX10_setNeed_13 : decode cX10_setNeed 13 = .ok (.new 124, 3) := by decide +kernel
theorem dX10_setNeed_16 : decode cX10_setNeed 16 = .ok (.dup, 1) := by decide +kernel
theorem dX10_setNeed_17 : decode cX10_setNeed 17 = .ok (.ldc 196, 2) := by decide +kernel
theorem dX10_setNeed_19 : decode cX10_setNeed 19 = .ok (.invokespecial 128, 3) := by decide +kernel
theorem dX10_setNeed_22 : decode cX10_setNeed 22 = .ok (.athrow, 1) := by decide +kernel
theorem dX10_setNeed_23 : decode cX10_setNeed 23 = .ok (.aload_n 0, 1) := by decide +kernel
theorem dX10_setNeed_24 : decode cX10_setNeed 24 = .ok (.getfield 34, 3) := by decide +kernel
theorem dX10_setNeed_27 : decode cX10_setNeed 27 = .ok (.getfield 198, 3) := by decide +kernel
theorem dX10_setNeed_30 : decode cX10_setNeed 30 = .ok (.iload_n 1, 1) := by decide +kernel
theorem dX10_setNeed_31 : decode cX10_setNeed 31 = .ok (.iaload, 1) := by decide +kernel
theorem dX10_setNeed_32 : decode cX10_setNeed 32 = .ok (.istore 4, 2) := by decide +kernel
theorem dX10_setNeed_34 : decode cX10_setNeed 34 = .ok (.iload 4, 2) := by decide +kernel
theorem dX10_setNeed_36 : decode cX10_setNeed 36 = .ok (.iload_n 2, 1) := by decide +kernel
theorem dX10_setNeed_37 : decode cX10_setNeed 37 = .ok (.iload_n 3, 1) := by decide +kernel
theorem dX10_setNeed_38 : decode cX10_setNeed 38 = .ok (.invokestatic 97, 3) := by decide +kernel
theorem dX10_setNeed_41 : decode cX10_setNeed 41 = .ok (.istore 5, 2) := by decide +kernel
theorem dX10_setNeed_43 : decode cX10_setNeed 43 = .ok (.iload_n 3, 1) := by decide +kernel
theorem dX10_setNeed_44 : decode cX10_setNeed 44 = .ok (.ifCond .eq 26, 3) := by decide +kernel
theorem dX10_setNeed_47 : decode cX10_setNeed 47 = .ok (.aload_n 0, 1) := by decide +kernel
theorem dX10_setNeed_48 : decode cX10_setNeed 48 = .ok (.getfield 34, 3) := by decide +kernel
theorem dX10_setNeed_51 : decode cX10_setNeed 51 = .ok (.iload_n 1, 1) := by decide +kernel
theorem dX10_setNeed_52 : decode cX10_setNeed 52 = .ok (.iload 5, 2) := by decide +kernel
theorem dX10_setNeed_54 : decode cX10_setNeed 54 = .ok (.invokevirtual 201, 3) := by decide +kernel
theorem dX10_setNeed_57 : decode cX10_setNeed 57 = .ok (.ifCond .eq 13, 3) := by decide +kernel
theorem dX10_setNeed_60 : decode cX10_setNeed 60 = .ok (.new 114, 3) := by decide +kernel
theorem dX10_setNeed_63 : decode cX10_setNeed 63 = .ok (.dup, 1) := by decide +kernel
theorem dX10_setNeed_64 : decode cX10_setNeed 64 = .ok (.ldc 204, 2) := by decide +kernel
theorem dX10_setNeed_66 : decode cX10_setNeed 66 = .ok (.invokespecial 118, 3) := by decide +kernel
theorem dX10_setNeed_69 : decode cX10_setNeed 69 = .ok (.athrow, 1) := by decide +kernel
theorem dX10_setNeed_70 : decode cX10_setNeed 70 = .ok (.aload_n 0, 1) := by decide +kernel
theorem dX10_setNeed_71 : decode cX10_setNeed 71 = .ok (.getfield 34, 3) := by decide +kernel
theorem dX10_setNeed_74 : decode cX10_setNeed 74 = .ok (.iload_n 1, 1) := by decide +kernel
theorem dX10_setNeed_75 : decode cX10_setNeed 75 = .ok (.iload 5, 2) := by decide +kernel
theorem dX10_setNeed_77 : decode cX10_setNeed 77 = .ok (.invokevirtual 206, 3) := by decide +kernel
theorem dX10_setNeed_80 : decode cX10_setNeed 80 = .ok (.iload 4, 2) := by decide +kernel
theorem dX10_setNeed_82 : decode cX10_setNeed 82 = .ok (.iload_n 2, 1) := by decide +kernel
theorem dX10_setNeed_83 : decode cX10_setNeed 83 = .ok (.invokestatic 93, 3) := by decide +kernel
theorem dX10_setNeed_86 : decode cX10_setNeed 86 = .ok (.ireturn, 1) := by decide +kernel
theorem dX10_view_0 : decode cX10_view 0 = .ok (.iload_n 1, 1) := by decide +kernel
theorem dX10_view_1 : decode cX10_view 1 = .ok (.invokestatic 71, 3) := by decide +kernel
theorem dX10_view_4 : decode cX10_view 4 = .ok (.iload_n 2, 1) := by decide +kernel
theorem dX10_view_5 : decode cX10_view 5 = .ok (.invokestatic 175, 3) := by decide +kernel
theorem dX10_view_8 : decode cX10_view 8 = .ok (.aload_n 0, 1) := by decide +kernel
theorem dX10_view_9 : decode cX10_view 9 = .ok (.iload_n 1, 1) := by decide +kernel
theorem dX10_view_10 : decode cX10_view 10 = .ok (.iload_n 2, 1) := by decide +kernel
theorem dX10_view_11 : decode cX10_view 11 = .ok (.invokevirtual 210, 3) := by decide +kernel
theorem dX10_view_14 : decode cX10_view 14 = .ok (.ireturn, 1) := by decide +kernel
theorem dX10_viewByLog_0 : decode cX10_viewByLog 0 = .ok (.iload_n 1, 1) := by decide +kernel
theorem dX10_viewByLog_1 : decode cX10_viewByLog 1 = .ok (.invokestatic 71, 3) := by decide +kernel
theorem dX10_viewByLog_4 : decode cX10_viewByLog 4 = .ok (.iload_n 2, 1) := by decide +kernel
theorem dX10_viewByLog_5 : decode cX10_viewByLog 5 = .ok (.invokestatic 175, 3) := by decide +kernel
theorem dX10_viewByLog_8 : decode cX10_viewByLog 8 = .ok (.aload_n 0, 1) := by decide +kernel
theorem dX10_viewByLog_9 : decode cX10_viewByLog 9 = .ok (.getfield 58, 3) := by decide +kernel
theorem dX10_viewByLog_12 : decode cX10_viewByLog 12 = .ok (.invokevirtual 213, 3) := by decide +kernel
theorem dX10_viewByLog_15 : decode cX10_viewByLog 15 = .ok (.iconst 0, 1) := by decide +kernel
theorem dX10_viewByLog_16 : decode cX10_viewByLog 16 = .ok (.istore_n 3, 1) := by decide +kernel
theorem dX10_viewByLog_17 : decode cX10_viewByLog 17 = .ok (.iload_n 3, 1) := by decide +kernel
theorem dX10_viewByLog_18 : decode cX10_viewByLog 18 = .ok (.aload_n 0, 1) := by decide +kernel
theorem dX10_viewByLog_19 : decode cX10_viewByLog 19 = .ok (.getfield 47, 3) := by decide +kernel
theorem dX10_viewByLog_22 : decode cX10_viewByLog 22 = .ok (.invokevirtual 216, 3) := by decide +kernel
theorem dX10_viewByLog_25 : decode cX10_viewByLog 25 = .ok (.if_icmp .ge 45, 3) := by decide +kernel
theorem dX10_viewByLog_28 : decode cX10_viewByLog 28 = .ok (.aload_n 0, 1) := by decide +kernel
theorem dX10_viewByLog_29 : decode cX10_viewByLog 29 = .ok (.getfield 47, 3) := by decide +kernel
theorem dX10_viewByLog_32 : decode cX10_viewByLog 32 = .ok (.iload_n 3, 1) := by decide +kernel
theorem dX10_viewByLog_33 : decode cX10_viewByLog 33 = .ok (.invokevirtual 220, 3) := by decide +kernel
theorem dX10_viewByLog_36 : decode cX10_viewByLog 36 = .ok (.checkcast 224, 3) := by decide +kernel
theorem dX10_viewByLog_39 : decode cX10_viewByLog 39 = .ok (.iload_n 1, 1) := by decide +kernel
theorem dX10_viewByLog_40 : decode cX10_viewByLog 40 = .ok (.invokevirtual 226, 3) := by decide +kernel
theorem dX10_viewByLog_43 : decode cX10_viewByLog 43 = .ok (.ifCond .eq 21, 3) := by decide +kernel
theorem dX10_viewByLog_46 : decode cX10_viewByLog 46 = .ok (.aload_n 0, 1) := by decide +kernel
theorem dX10_viewByLog_47 : decode cX10_viewByLog 47 = .ok (.getfield 58, 3) := by decide +kernel
theorem dX10_viewByLog_50 : decode cX10_viewByLog 50 = .ok (.aload_n 0, 1) := by decide +kernel
theorem dX10_viewByLog_51 : decode cX10_viewByLog 51 = .ok (.getfield 47, 3) := by decide +kernel
theorem dX10_viewByLog_54 : decode cX10_viewByLog 54 = .ok (.iload_n 3, 1) := by decide +kernel
theorem dX10_viewByLog_55 : decode cX10_viewByLog 55 = .ok (.invokevirtual 220, 3) := by decide +kernel
theorem dX10_viewByLog_58 : decode cX10_viewByLog 58 = .ok (.checkcast 224, 3) := by decide +kernel
theorem dX10_viewByLog_61 : decode cX10_viewByLog 61 = .ok (.invokevirtual 230, 3) := by decide +kernel
theorem dX10_viewByLog_64 : decode cX10_viewByLog 64 = .ok (.iinc 3 1, 3) := by decide +kernel
theorem dX10_viewByLog_67 : decode cX10_viewByLog 67 = .ok (.goto (-50), 3) := by decide +kernel
theorem dX10_viewByLog_70 : decode cX10_viewByLog 70 = .ok (.aload_n 0, 1) := by decide +kernel
theorem dX10_viewByLog_71 : decode cX10_viewByLog 71 = .ok (.aload_n 0, 1) := by decide +kernel
theorem dX10_viewByLog_72 : decode cX10_viewByLog 72 = .ok (.getfield 62, 3) := by decide +kernel
theorem dX10_viewByLog_75 : decode cX10_viewByLog 75 = .ok (.iload_n 1, 1) := by decide +kernel
theorem dX10_viewByLog_76 : decode cX10_viewByLog 76 = .ok (.aload_n 0, 1) := by decide +kernel
theorem dX10_viewByLog_77 : decode cX10_viewByLog 77 = .ok (.getfield 19, 3) := by decide +kernel
theorem dX10_viewByLog_80 : decode cX10_viewByLog 80 = .ok (.getfield 153, 3) := by decide +kernel
theorem dX10_viewByLog_83 : decode cX10_viewByLog 83 = .ok (.aload_n 0, 1) := by decide +kernel
theorem dX10_viewByLog_84 : decode cX10_viewByLog 84 = .ok (.getfield 58, 3) := by decide +kernel
theorem dX10_viewByLog_87 : decode cX10_viewByLog 87 = .ok (.invokevirtual 167, 3) := by decide +kernel
theorem dX10_viewByLog_90 : decode cX10_viewByLog 90 = .ok (.aload_n 0, 1) := by decide +kernel
theorem dX10_viewByLog_91 : decode cX10_viewByLog 91 = .ok (.getfield 62, 3) := by decide +kernel
theorem dX10_viewByLog_94 : decode cX10_viewByLog 94 = .ok (.iload_n 2, 1) := by decide +kernel
theorem dX10_viewByLog_95 : decode cX10_viewByLog 95 = .ok (.iaload, 1) := by decide +kernel
theorem dX10_viewByLog_96 : decode cX10_viewByLog 96 = .ok (.ireturn, 1) := by decide +kernel
theorem dX10_ruleFor_0 : decode cX10_ruleFor 0 = .ok (.iload_n 1, 1) := by decide +kernel
theorem dX10_ruleFor_1 : decode cX10_ruleFor 1 = .ok (.invokestatic 71, 3) := by decide +kernel
theorem dX10_ruleFor_4 : decode cX10_ruleFor 4 = .ok (.iload_n 2, 1) := by decide +kernel
theorem dX10_ruleFor_5 : decode cX10_ruleFor 5 = .ok (.invokestatic 175, 3) := by decide +kernel
theorem dX10_ruleFor_8 : decode cX10_ruleFor 8 = .ok (.aload_n 0, 1) := by decide +kernel
theorem dX10_ruleFor_9 : decode cX10_ruleFor 9 = .ok (.getfield 25, 3) := by decide +kernel
theorem dX10_ruleFor_12 : decode cX10_ruleFor 12 = .ok (.iload_n 2, 1) := by decide +kernel
theorem dX10_ruleFor_13 : decode cX10_ruleFor 13 = .ok (.aaload, 1) := by decide +kernel
theorem dX10_ruleFor_14 : decode cX10_ruleFor 14 = .ok (.iload_n 1, 1) := by decide +kernel
theorem dX10_ruleFor_15 : decode cX10_ruleFor 15 = .ok (.aload_n 0, 1) := by decide +kernel
theorem dX10_ruleFor_16 : decode cX10_ruleFor 16 = .ok (.getfield 19, 3) := by decide +kernel
theorem dX10_ruleFor_19 : decode cX10_ruleFor 19 = .ok (.getfield 153, 3) := by decide +kernel
theorem dX10_ruleFor_22 : decode cX10_ruleFor 22 = .ok (.invokevirtual 234, 3) := by decide +kernel
theorem dX10_ruleFor_25 : decode cX10_ruleFor 25 = .ok (.ireturn, 1) := by decide +kernel
theorem dX10_reach_0 : decode cX10_reach 0 = .ok (.iload_n 1, 1) := by decide +kernel
theorem dX10_reach_1 : decode cX10_reach 1 = .ok (.invokestatic 175, 3) := by decide +kernel
theorem dX10_reach_4 : decode cX10_reach 4 = .ok (.iload_n 2, 1) := by decide +kernel
theorem dX10_reach_5 : decode cX10_reach 5 = .ok (.invokestatic 238, 3) := by decide +kernel
theorem dX10_reach_8 : decode cX10_reach 8 = .ok (.iconst 0, 1) := by decide +kernel
theorem dX10_reach_9 : decode cX10_reach 9 = .ok (.istore_n 3, 1) := by decide +kernel
theorem dX10_reach_10 : decode cX10_reach 10 = .ok (.iconst 0, 1) := by decide +kernel
theorem dX10_reach_11 : decode cX10_reach 11 = .ok (.istore 4, 2) := by decide +kernel
theorem dX10_reach_13 : decode cX10_reach 13 = .ok (.iload 4, 2) := by decide +kernel
theorem dX10_reach_15 : decode cX10_reach 15 = .ok (.bipush 20, 2) := by decide +kernel
theorem dX10_reach_17 : decode cX10_reach 17 = .ok (.if_icmp .ge 23, 3) := by decide +kernel
theorem dX10_reach_20 : decode cX10_reach 20 = .ok (.aload_n 0, 1) := by decide +kernel
theorem dX10_reach_21 : decode cX10_reach 21 = .ok (.iload 4, 2) := by decide +kernel
theorem dX10_reach_23 : decode cX10_reach 23 = .ok (.iload_n 1, 1) := by decide +kernel
theorem dX10_reach_24 : decode cX10_reach 24 = .ok (.invokevirtual 210, 3) := by decide +kernel
theorem dX10_reach_27 : decode cX10_reach 27 = .ok (.iload_n 2, 1) := by decide +kernel
theorem dX10_reach_28 : decode cX10_reach 28 = .ok (.if_icmp .ne 6, 3) := by decide +kernel
theorem dX10_reach_31 : decode cX10_reach 31 = .ok (.iinc 3 1, 3) := by decide +kernel
theorem dX10_reach_34 : decode cX10_reach 34 = .ok (.iinc 4 1, 3) := by decide +kernel
theorem dX10_reach_37 : decode cX10_reach 37 = .ok (.goto (-24), 3) := by decide +kernel
theorem dX10_reach_40 : decode cX10_reach 40 = .ok (.iload_n 3, 1) := by decide +kernel
theorem dX10_reach_41 : decode cX10_reach 41 = .ok (.ireturn, 1) := by decide +kernel
theorem dX10_show_0 : decode cX10_show 0 = .ok (.iload_n 1, 1) := by decide +kernel
theorem dX10_show_1 : decode cX10_show 1 = .ok (.invokestatic 71, 3) := by decide +kernel
theorem dX10_show_4 : decode cX10_show 4 = .ok (.iload_n 2, 1) := by decide +kernel
theorem dX10_show_5 : decode cX10_show 5 = .ok (.invokestatic 175, 3) := by decide +kernel
theorem dX10_show_8 : decode cX10_show 8 = .ok (.aload_n 0, 1) := by decide +kernel
theorem dX10_show_9 : decode cX10_show 9 = .ok (.invokevirtual 241, 3) := by decide +kernel
theorem dX10_show_12 : decode cX10_show 12 = .ok (.aload_n 0, 1) := by decide +kernel
theorem dX10_show_13 : decode cX10_show 13 = .ok (.iload_n 1, 1) := by decide +kernel
theorem dX10_show_14 : decode cX10_show 14 = .ok (.iload_n 2, 1) := by decide +kernel
theorem dX10_show_15 : decode cX10_show 15 = .ok (.invokevirtual 210, 3) := by decide +kernel
theorem dX10_show_18 : decode cX10_show 18 = .ok (.istore_n 3, 1) := by decide +kernel
theorem dX10_show_19 : decode cX10_show 19 = .ok (.aload_n 0, 1) := by decide +kernel
theorem dX10_show_20 : decode cX10_show 20 = .ok (.iload_n 1, 1) := by decide +kernel
theorem dX10_show_21 : decode cX10_show 21 = .ok (.iload_n 2, 1) := by decide +kernel
theorem dX10_show_22 : decode cX10_show 22 = .ok (.invokevirtual 244, 3) := by decide +kernel
theorem dX10_show_25 : decode cX10_show 25 = .ok (.istore 4, 2) := by decide +kernel
theorem dX10_show_27 : decode cX10_show 27 = .ok (.aload_n 0, 1) := by decide +kernel
theorem dX10_show_28 : decode cX10_show 28 = .ok (.new 224, 3) := by decide +kernel
theorem dX10_show_31 : decode cX10_show 31 = .ok (.dup, 1) := by decide +kernel
theorem dX10_show_32 : decode cX10_show 32 = .ok (.aload_n 0, 1) := by decide +kernel
theorem dX10_show_33 : decode cX10_show 33 = .ok (.iload 4, 2) := by decide +kernel
theorem dX10_show_35 : decode cX10_show 35 = .ok (.iload_n 1, 1) := by decide +kernel
theorem dX10_show_36 : decode cX10_show 36 = .ok (.invokevirtual 247, 3) := by decide +kernel
theorem dX10_show_39 : decode cX10_show 39 = .ok (.ifCond .eq 7, 3) := by decide +kernel
theorem dX10_show_42 : decode cX10_show 42 = .ok (.iconst 1, 1) := by decide +kernel
theorem dX10_show_43 : decode cX10_show 43 = .ok (.goto 4, 3) := by decide +kernel
theorem dX10_show_46 : decode cX10_show 46 = .ok (.iconst 0, 1) := by decide +kernel
theorem dX10_show_47 : decode cX10_show 47 = .ok (.iload_n 1, 1) := by decide +kernel
theorem dX10_show_48 : decode cX10_show 48 = .ok (.iload_n 2, 1) := by decide +kernel
theorem dX10_show_49 : decode cX10_show 49 = .ok (.iload 4, 2) := by decide +kernel
theorem dX10_show_51 : decode cX10_show 51 = .ok (.iload_n 3, 1) := by decide +kernel
theorem dX10_show_52 : decode cX10_show 52 = .ok (.invokespecial 250, 3) := by decide +kernel
theorem dX10_show_55 : decode cX10_show 55 = .ok (.invokevirtual 253, 3) := by decide +kernel
theorem dX10_show_58 : decode cX10_show 58 = .ok (.iload_n 3, 1) := by decide +kernel
theorem dX10_show_59 : decode cX10_show 59 = .ok (.ireturn, 1) := by decide +kernel
theorem dX10_setShares_0 : decode cX10_setShares 0 = .ok (.iload_n 1, 1) := by decide +kernel
theorem dX10_setShares_1 : decode cX10_setShares 1 = .ok (.invokestatic 256, 3) := by decide +kernel
theorem dX10_setShares_4 : decode cX10_setShares 4 = .ok (.iload_n 2, 1) := by decide +kernel
theorem dX10_setShares_5 : decode cX10_setShares 5 = .ok (.iconst 0, 1) := by decide +kernel
theorem dX10_setShares_6 : decode cX10_setShares 6 = .ok (.bipush 100, 2) := by decide +kernel
theorem dX10_setShares_8 : decode cX10_setShares 8 = .ok (.invokestatic 74, 3) := by decide +kernel
theorem dX10_setShares_11 : decode cX10_setShares 11 = .ok (.iload_n 3, 1) := by decide +kernel
theorem dX10_setShares_12 : decode cX10_setShares 12 = .ok (.iconst 0, 1) := by decide +kernel
theorem dX10_setShares_13 : decode cX10_setShares 13 = .ok (.bipush 100, 2) := by decide +kernel
theorem dX10_setShares_15 : decode cX10_setShares 15 = .ok (.invokestatic 74, 3) := by decide +kernel
theorem dX10_setShares_18 : decode cX10_setShares 18 = .ok (.iload 4, 2) := by decide +kernel
theorem dX10_setShares_20 : decode cX10_setShares 20 = .ok (.iconst 0, 1) := by decide +kernel
theorem dX10_setShares_21 : decode cX10_setShares 21 = .ok (.bipush 100, 2) := by decide +kernel
theorem dX10_setShares_23 : decode cX10_setShares 23 = .ok (.invokestatic 74, 3) := by decide +kernel
theorem dX10_setShares_26 : decode cX10_setShares 26 = .ok (.iload 5, 2) := by decide +kernel
theorem dX10_setShares_28 : decode cX10_setShares 28 = .ok (.iconst 0, 1) := by decide +kernel
theorem dX10_setShares_29 : decode cX10_setShares 29 = .ok (.bipush 100, 2) := by decide +kernel
theorem dX10_setShares_31 : decode cX10_setShares 31 = .ok (.invokestatic 74, 3) := by decide +kernel
theorem dX10_setShares_34 : decode cX10_setShares 34 = .ok (.aload_n 0, 1) := by decide +kernel
theorem dX10_setShares_35 : decode cX10_setShares 35 = .ok (.iload_n 1, 1) := by decide +kernel
theorem dX10_setShares_36 : decode cX10_setShares 36 = .ok (.invokevirtual 259, 3) := by decide +kernel
theorem dX10_setShares_39 : decode cX10_setShares 39 = .ok (.aload_n 0, 1) := by decide +kernel
theorem dX10_setShares_40 : decode cX10_setShares 40 = .ok (.getfield 40, 3) := by decide +kernel
theorem dX10_setShares_43 : decode cX10_setShares 43 = .ok (.iload_n 1, 1) := by decide +kernel
theorem dX10_setShares_44 : decode cX10_setShares 44 = .ok (.aaload, 1) := by decide +kernel
theorem dX10_setShares_45 : decode cX10_setShares 45 = .ok (.invokevirtual 262, 3) := by decide +kernel
theorem dX10_setShares_48 : decode cX10_setShares 48 = .ok (.istore 6, 2) := by decide +kernel
theorem dX10_setShares_50 : decode cX10_setShares 50 = .ok (.aload_n 0, 1) := by decide +kernel
theorem dX10_setShares_51 : decode cX10_setShares 51 = .ok (.getfield 40, 3) := by decide +kernel
theorem dX10_setShares_54 : decode cX10_setShares 54 = .ok (.iload_n 1, 1) := by decide +kernel
theorem dX10_setShares_55 : decode cX10_setShares 55 = .ok (.aaload, 1) := by decide +kernel
theorem dX10_setShares_56 : decode cX10_setShares 56 = .ok (.iload_n 2, 1) := by decide +kernel
theorem dX10_setShares_57 : decode cX10_setShares 57 = .ok (.iload_n 3, 1) := by decide +kernel
theorem dX10_setShares_58 : decode cX10_setShares 58 = .ok (.iload 4, 2) := by decide +kernel
theorem dX10_setShares_60 : decode cX10_setShares 60 = .ok (.iload 5, 2) := by decide +kernel
theorem dX10_setShares_62 : decode cX10_setShares 62 = .ok (.invokevirtual 265, 3) := by decide +kernel
theorem dX10_setShares_65 : decode cX10_setShares 65 = .ok (.iload 6, 2) := by decide +kernel
theorem dX10_setShares_67 : decode cX10_setShares 67 = .ok (.ireturn, 1) := by decide +kernel
theorem dX10_setSalt_0 : decode cX10_setSalt 0 = .ok (.iload_n 1, 1) := by decide +kernel
theorem dX10_setSalt_1 : decode cX10_setSalt 1 = .ok (.invokestatic 256, 3) := by decide +kernel
theorem dX10_setSalt_4 : decode cX10_setSalt 4 = .ok (.iload_n 2, 1) := by decide +kernel
theorem dX10_setSalt_5 : decode cX10_setSalt 5 = .ok (.iconst 0, 1) := by decide +kernel
theorem dX10_setSalt_6 : decode cX10_setSalt 6 = .ok (.sipush 1000, 3) := by decide +kernel
theorem dX10_setSalt_9 : decode cX10_setSalt 9 = .ok (.invokestatic 74, 3) := by decide +kernel
theorem dX10_setSalt_12 : decode cX10_setSalt 12 = .ok (.aload_n 0, 1) := by decide +kernel
theorem dX10_setSalt_13 : decode cX10_setSalt 13 = .ok (.iload_n 1, 1) := by decide +kernel
theorem dX10_setSalt_14 : decode cX10_setSalt 14 = .ok (.invokevirtual 259, 3) := by decide +kernel
theorem dX10_setSalt_17 : decode cX10_setSalt 17 = .ok (.aload_n 0, 1) := by decide +kernel
theorem dX10_setSalt_18 : decode cX10_setSalt 18 = .ok (.getfield 40, 3) := by decide +kernel
theorem dX10_setSalt_21 : decode cX10_setSalt 21 = .ok (.iload_n 1, 1) := by decide +kernel
theorem dX10_setSalt_22 : decode cX10_setSalt 22 = .ok (.aaload, 1) := by decide +kernel
theorem dX10_setSalt_23 : decode cX10_setSalt 23 = .ok (.getfield 269, 3) := by decide +kernel
theorem dX10_setSalt_26 : decode cX10_setSalt 26 = .ok (.istore_n 3, 1) := by decide +kernel
theorem dX10_setSalt_27 : decode cX10_setSalt 27 = .ok (.aload_n 0, 1) := by decide +kernel
theorem dX10_setSalt_28 : decode cX10_setSalt 28 = .ok (.getfield 40, 3) := by decide +kernel
theorem dX10_setSalt_31 : decode cX10_setSalt 31 = .ok (.iload_n 1, 1) := by decide +kernel
theorem dX10_setSalt_32 : decode cX10_setSalt 32 = .ok (.aaload, 1) := by decide +kernel
theorem dX10_setSalt_33 : decode cX10_setSalt 33 = .ok (.iload_n 2, 1) := by decide +kernel
theorem dX10_setSalt_34 : decode cX10_setSalt 34 = .ok (.putfield 269, 3) := by decide +kernel
theorem dX10_setSalt_37 : decode cX10_setSalt 37 = .ok (.iload_n 3, 1) := by decide +kernel
theorem dX10_setSalt_38 : decode cX10_setSalt 38 = .ok (.ireturn, 1) := by decide +kernel
theorem dX10_stop_0 : decode cX10_stop 0 = .ok (.iload_n 1, 1) := by decide +kernel
theorem dX10_stop_1 : decode cX10_stop 1 = .ok (.invokestatic 256, 3) := by decide +kernel
theorem dX10_stop_4 : decode cX10_stop 4 = .ok (.iload_n 2, 1) := by decide +kernel
theorem dX10_stop_5 : decode cX10_stop 5 = .ok (.invokestatic 238, 3) := by decide +kernel
theorem dX10_stop_8 : decode cX10_stop 8 = .ok (.aload_n 0, 1) := by decide +kernel
theorem dX10_stop_9 : decode cX10_stop 9 = .ok (.iload_n 1, 1) := by decide +kernel
theorem dX10_stop_10 : decode cX10_stop 10 = .ok (.invokevirtual 259, 3) := by decide +kernel
theorem dX10_stop_13 : decode cX10_stop 13 = .ok (.iconst 0, 1) := by decide +kernel
theorem dX10_stop_14 : decode cX10_stop 14 = .ok (.istore_n 3, 1) := by decide +kernel
theorem dX10_stop_15 : decode cX10_stop 15 = .ok (.iconst 0, 1) := by decide +kernel
theorem dX10_stop_16 : decode cX10_stop 16 = .ok (.istore 4, 2) := by decide +kernel
theorem dX10_stop_18 : decode cX10_stop 18 = .ok (.iload 4, 2) := by decide +kernel
theorem dX10_stop_20 : decode cX10_stop 20 = .ok (.bipush 20, 2) := by decide +kernel
theorem dX10_stop_22 : decode cX10_stop 22 = .ok (.if_icmp .ge 23, 3) := by decide +kernel
theorem dX10_stop_25 : decode cX10_stop 25 = .ok (.aload_n 0, 1) := by decide +kernel
theorem dX10_stop_26 : decode cX10_stop 26 = .ok (.iload_n 1, 1) := by decide +kernel
theorem dX10_stop_27 : decode cX10_stop 27 = .ok (.iload 4, 2) := by decide +kernel
theorem dX10_stop_29 : decode cX10_stop 29 = .ok (.invokevirtual 272, 3) := by decide +kernel
theorem dX10_stop_32 : decode cX10_stop 32 = .ok (.iload_n 2, 1) := by decide +kernel
theorem dX10_stop_33 : decode cX10_stop 33 = .ok (.if_icmp .eq 6, 3) := by decide +kernel
theorem dX10_stop_36 : decode cX10_stop 36 = .ok (.iinc 3 1, 3) := by decide +kernel
theorem dX10_stop_39 : decode cX10_stop 39 = .ok (.iinc 4 1, 3) := by decide +kernel
theorem dX10_stop_42 : decode cX10_stop 42 = .ok (.goto (-24), 3) := by decide +kernel
theorem dX10_stop_45 : decode cX10_stop 45 = .ok (.aload_n 0, 1) := by decide +kernel
theorem dX10_stop_46 : decode cX10_stop 46 = .ok (.getfield 40, 3) := by decide +kernel
theorem dX10_stop_49 : decode cX10_stop 49 = .ok (.iload_n 1, 1) := by decide +kernel
theorem dX10_stop_50 : decode cX10_stop 50 = .ok (.aaload, 1) := by decide +kernel
theorem dX10_stop_51 : decode cX10_stop 51 = .ok (.iload_n 2, 1) := by decide +kernel
theorem dX10_stop_52 : decode cX10_stop 52 = .ok (.putfield 275, 3) := by decide +kernel
theorem dX10_stop_55 : decode cX10_stop 55 = .ok (.iload_n 3, 1) := by decide +kernel
theorem dX10_stop_56 : decode cX10_stop 56 = .ok (.ireturn, 1) := by decide +kernel
theorem dX10_beginAnew_0 : decode cX10_beginAnew 0 = .ok (.iload_n 1, 1) := by decide +kernel
theorem dX10_beginAnew_1 : decode cX10_beginAnew 1 = .ok (.invokestatic 256, 3) := by decide +kernel
theorem dX10_beginAnew_4 : decode cX10_beginAnew 4 = .ok (.aload_n 0, 1) := by decide +kernel
theorem dX10_beginAnew_5 : decode cX10_beginAnew 5 = .ok (.iload_n 1, 1) := by decide +kernel
theorem dX10_beginAnew_6 : decode cX10_beginAnew 6 = .ok (.invokevirtual 259, 3) := by decide +kernel
theorem dX10_beginAnew_9 : decode cX10_beginAnew 9 = .ok (.aload_n 0, 1) := by decide +kernel
theorem dX10_beginAnew_10 : decode cX10_beginAnew 10 = .ok (.invokevirtual 241, 3) := by decide +kernel
theorem dX10_beginAnew_13 : decode cX10_beginAnew 13 = .ok (.iconst 0, 1) := by decide +kernel
theorem dX10_beginAnew_14 : decode cX10_beginAnew 14 = .ok (.istore_n 2, 1) := by decide +kernel
theorem dX10_beginAnew_15 : decode cX10_beginAnew 15 = .ok (.iconst 0, 1) := by decide +kernel
theorem dX10_beginAnew_16 : decode cX10_beginAnew 16 = .ok (.istore_n 3, 1) := by decide +kernel
theorem dX10_beginAnew_17 : decode cX10_beginAnew 17 = .ok (.iload_n 3, 1) := by decide +kernel
theorem dX10_beginAnew_18 : decode cX10_beginAnew 18 = .ok (.bipush 20, 2) := by decide +kernel
theorem dX10_beginAnew_20 : decode cX10_beginAnew 20 = .ok (.if_icmp .ge 27, 3) := by decide +kernel
theorem dX10_beginAnew_23 : decode cX10_beginAnew 23 = .ok (.aload_n 0, 1) := by decide +kernel
theorem dX10_beginAnew_24 : decode cX10_beginAnew 24 = .ok (.getfield 53, 3) := by decide +kernel
theorem dX10_beginAnew_27 : decode cX10_beginAnew 27 = .ok (.iload_n 3, 1) := by decide +kernel
theorem dX10_beginAnew_28 : decode cX10_beginAnew 28 = .ok (.aaload, 1) := by decide +kernel
theorem dX10_beginAnew_29 : decode cX10_beginAnew 29 = .ok (.getfield 278, 3) := by decide +kernel
theorem dX10_beginAnew_32 : decode cX10_beginAnew 32 = .ok (.iload_n 1, 1) := by decide +kernel
theorem dX10_beginAnew_33 : decode cX10_beginAnew 33 = .ok (.iaload, 1) := by decide +kernel
theorem dX10_beginAnew_34 : decode cX10_beginAnew 34 = .ok (.iconst (-1), 1) := by decide +kernel
theorem dX10_beginAnew_35 : decode cX10_beginAnew 35 = .ok (.if_icmp .eq 6, 3) := by decide +kernel
theorem dX10_beginAnew_38 : decode cX10_beginAnew 38 = .ok (.iinc 2 1, 3) := by decide +kernel
theorem dX10_beginAnew_41 : decode cX10_beginAnew 41 = .ok (.iinc 3 1, 3) := by decide +kernel
theorem dX10_beginAnew_44 : decode cX10_beginAnew 44 = .ok (.goto (-27), 3) := by decide +kernel
theorem dX10_beginAnew_47 : decode cX10_beginAnew 47 = .ok (.aload_n 0, 1) := by decide +kernel
theorem dX10_beginAnew_48 : decode cX10_beginAnew 48 = .ok (.getfield 40, 3) := by decide +kernel
theorem dX10_beginAnew_51 : decode cX10_beginAnew 51 = .ok (.iload_n 1, 1) := by decide +kernel
theorem dX10_beginAnew_52 : decode cX10_beginAnew 52 = .ok (.aaload, 1) := by decide +kernel
theorem dX10_beginAnew_53 : decode cX10_beginAnew 53 = .ok (.iconst (-1), 1) := by decide +kernel
theorem dX10_beginAnew_54 : decode cX10_beginAnew 54 = .ok (.putfield 275, 3) := by decide +kernel
theorem dX10_beginAnew_57 : decode cX10_beginAnew 57 = .ok (.aload_n 0, 1) := by decide +kernel
theorem dX10_beginAnew_58 : decode cX10_beginAnew 58 = .ok (.new 224, 3) := by decide +kernel
theorem dX10_beginAnew_61 : decode cX10_beginAnew 61 = .ok (.dup, 1) := by decide +kernel
theorem dX10_beginAnew_62 : decode cX10_beginAnew 62 = .ok (.bipush 6, 2) := by decide +kernel
theorem dX10_beginAnew_64 : decode cX10_beginAnew 64 = .ok (.iconst (-1), 1) := by decide +kernel
theorem dX10_beginAnew_65 : decode cX10_beginAnew 65 = .ok (.iconst (-1), 1) := by decide +kernel
theorem dX10_beginAnew_66 : decode cX10_beginAnew 66 = .ok (.iload_n 1, 1) := by decide +kernel
theorem dX10_beginAnew_67 : decode cX10_beginAnew 67 = .ok (.iconst (-1), 1) := by decide +kernel
theorem dX10_beginAnew_68 : decode cX10_beginAnew 68 = .ok (.invokespecial 250, 3) := by decide +kernel
theorem dX10_beginAnew_71 : decode cX10_beginAnew 71 = .ok (.invokevirtual 253, 3) := by decide +kernel
theorem dX10_beginAnew_74 : decode cX10_beginAnew 74 = .ok (.iload_n 2, 1) := by decide +kernel
theorem dX10_beginAnew_75 : decode cX10_beginAnew 75 = .ok (.ireturn, 1) := by decide +kernel
theorem dX10_arm_0 : decode cX10_arm 0 = .ok (.iload_n 1, 1) := by decide +kernel
theorem dX10_arm_1 : decode cX10_arm 1 = .ok (.invokestatic 256, 3) := by decide +kernel
theorem dX10_arm_4 : decode cX10_arm 4 = .ok (.iload_n 2, 1) := by decide +kernel
theorem dX10_arm_5 : decode cX10_arm 5 = .ok (.invokestatic 71, 3) := by decide +kernel
theorem dX10_arm_8 : decode cX10_arm 8 = .ok (.aload_n 0, 1) := by decide +kernel
theorem dX10_arm_9 : decode cX10_arm 9 = .ok (.iload_n 1, 1) := by decide +kernel
theorem dX10_arm_10 : decode cX10_arm 10 = .ok (.iload_n 2, 1) := by decide +kernel
theorem dX10_arm_11 : decode cX10_arm 11 = .ok (.invokevirtual 272, 3) := by decide +kernel
theorem dX10_arm_14 : decode cX10_arm 14 = .ok (.ireturn, 1) := by decide +kernel
theorem dX10_kept_0 : decode cX10_kept 0 = .ok (.iload_n 1, 1) := by decide +kernel
theorem dX10_kept_1 : decode cX10_kept 1 = .ok (.invokestatic 256, 3) := by decide +kernel
theorem dX10_kept_4 : decode cX10_kept 4 = .ok (.iload_n 2, 1) := by decide +kernel
theorem dX10_kept_5 : decode cX10_kept 5 = .ok (.invokestatic 71, 3) := by decide +kernel
theorem dX10_kept_8 : decode cX10_kept 8 = .ok (.aload_n 0, 1) := by decide +kernel
theorem dX10_kept_9 : decode cX10_kept 9 = .ok (.getfield 53, 3) := by decide +kernel
theorem dX10_kept_12 : decode cX10_kept 12 = .ok (.iload_n 2, 1) := by decide +kernel
theorem dX10_kept_13 : decode cX10_kept 13 = .ok (.aaload, 1) := by decide +kernel
theorem dX10_kept_14 : decode cX10_kept 14 = .ok (.getfield 278, 3) := by decide +kernel
theorem dX10_kept_17 : decode cX10_kept 17 = .ok (.iload_n 1, 1) := by decide +kernel
theorem dX10_kept_18 : decode cX10_kept 18 = .ok (.iaload, 1) := by decide +kernel
theorem dX10_kept_19 : decode cX10_kept 19 = .ok (.ireturn, 1) := by decide +kernel
theorem dX10_hold_0 : decode cX10_hold 0 = .ok (.iload_n 1, 1) := by decide +kernel
theorem dX10_hold_1 : decode cX10_hold 1 = .ok (.invokestatic 71, 3) := by decide +kernel
theorem dX10_hold_4 : decode cX10_hold 4 = .ok (.iload_n 2, 1) := by decide +kernel
theorem dX10_hold_5 : decode cX10_hold 5 = .ok (.invokestatic 175, 3) := by decide +kernel
theorem dX10_hold_8 : decode cX10_hold 8 = .ok (.aload_n 0, 1) := by decide +kernel
theorem dX10_hold_9 : decode cX10_hold 9 = .ok (.getfield 53, 3) := by decide +kernel
theorem dX10_hold_12 : decode cX10_hold 12 = .ok (.iload_n 1, 1) := by decide +kernel
theorem dX10_hold_13 : decode cX10_hold 13 = .ok (.aaload, 1) := by decide +kernel
theorem dX10_hold_14 : decode cX10_hold 14 = .ok (.getfield 281, 3) := by decide +kernel
theorem dX10_hold_17 : decode cX10_hold 17 = .ok (.iload_n 2, 1) := by decide +kernel
theorem dX10_hold_18 : decode cX10_hold 18 = .ok (.iaload, 1) := by decide +kernel
theorem dX10_hold_19 : decode cX10_hold 19 = .ok (.bipush 6, 2) := by decide +kernel
theorem dX10_hold_21 : decode cX10_hold 21 = .ok (.invokestatic 93, 3) := by decide +kernel
theorem dX10_hold_24 : decode cX10_hold 24 = .ok (.ifCond .eq 14, 3) := by decide +kernel
theorem dX10_hold_27 : decode cX10_hold 27 = .ok (.new 114, 3) := by decide +kernel
theorem dX10_hold_30 : decode cX10_hold 30 = .ok (.dup, 1) := by decide +kernel
theorem dX10_hold_31 : decode cX10_hold 31 = .ok (.ldc_w 284, 3) := by decide +kernel
theorem dX10_hold_34 : decode cX10_hold 34 = .ok (.invokespecial 118, 3) := by decide +kernel
theorem dX10_hold_37 : decode cX10_hold 37 = .ok (.athrow, 1) := by decide +kernel
theorem dX10_hold_38 : decode cX10_hold 38 = .ok (.aload_n 0, 1) := by decide +kernel
theorem dX10_hold_39 : decode cX10_hold 39 = .ok (.invokevirtual 241, 3) := by decide +kernel
theorem dX10_hold_42 : decode cX10_hold 42 = .ok (.aload_n 0, 1) := by decide +kernel
theorem dX10_hold_43 : decode cX10_hold 43 = .ok (.iload_n 1, 1) := by decide +kernel
theorem dX10_hold_44 : decode cX10_hold 44 = .ok (.iload_n 2, 1) := by decide +kernel
theorem dX10_hold_45 : decode cX10_hold 45 = .ok (.invokevirtual 210, 3) := by decide +kernel
theorem dX10_hold_48 : decode cX10_hold 48 = .ok (.istore_n 3, 1) := by decide +kernel
theorem dX10_hold_49 : decode cX10_hold 49 = .ok (.aload_n 0, 1) := by decide +kernel
theorem dX10_hold_50 : decode cX10_hold 50 = .ok (.new 224, 3) := by decide +kernel
theorem dX10_hold_53 : decode cX10_hold 53 = .ok (.dup, 1) := by decide +kernel
theorem dX10_hold_54 : decode cX10_hold 54 = .ok (.iconst 2, 1) := by decide +kernel
theorem dX10_hold_55 : decode cX10_hold 55 = .ok (.iload_n 1, 1) := by decide +kernel
theorem dX10_hold_56 : decode cX10_hold 56 = .ok (.iload_n 2, 1) := by decide +kernel
theorem dX10_hold_57 : decode cX10_hold 57 = .ok (.iconst (-1), 1) := by decide +kernel
theorem dX10_hold_58 : decode cX10_hold 58 = .ok (.iload_n 3, 1) := by decide +kernel
theorem dX10_hold_59 : decode cX10_hold 59 = .ok (.invokespecial 250, 3) := by decide +kernel
theorem dX10_hold_62 : decode cX10_hold 62 = .ok (.invokevirtual 253, 3) := by decide +kernel
theorem dX10_hold_65 : decode cX10_hold 65 = .ok (.iload_n 3, 1) := by decide +kernel
theorem dX10_hold_66 : decode cX10_hold 66 = .ok (.ireturn, 1) := by decide +kernel
theorem dX10_release_0 : decode cX10_release 0 = .ok (.iload_n 1, 1) := by decide +kernel
theorem dX10_release_1 : decode cX10_release 1 = .ok (.invokestatic 71, 3) := by decide +kernel
theorem dX10_release_4 : decode cX10_release 4 = .ok (.iload_n 2, 1) := by decide +kernel
theorem dX10_release_5 : decode cX10_release 5 = .ok (.invokestatic 175, 3) := by decide +kernel
theorem dX10_release_8 : decode cX10_release 8 = .ok (.aload_n 0, 1) := by decide +kernel
theorem dX10_release_9 : decode cX10_release 9 = .ok (.getfield 53, 3) := by decide +kernel
theorem dX10_release_12 : decode cX10_release 12 = .ok (.iload_n 1, 1) := by decide +kernel
theorem dX10_release_13 : decode cX10_release 13 = .ok (.aaload, 1) := by decide +kernel
theorem dX10_release_14 : decode cX10_release 14 = .ok (.getfield 281, 3) := by decide +kernel
theorem dX10_release_17 : decode cX10_release 17 = .ok (.iload_n 2, 1) := by decide +kernel
theorem dX10_release_18 : decode cX10_release 18 = .ok (.iaload, 1) := by decide +kernel
theorem dX10_release_19 : decode cX10_release 19 = .ok (.bipush 6, 2) := by decide +kernel
theorem dX10_release_21 : decode cX10_release 21 = .ok (.invokestatic 93, 3) := by decide +kernel
theorem dX10_release_24 : decode cX10_release 24 = .ok (.ifCond .ne 14, 3) := by decide +kernel
theorem dX10_release_27 : decode cX10_release 27 = .ok (.new 114, 3) := by decide +kernel
theorem dX10_release_30 : decode cX10_release 30 = .ok (.dup, 1) := by decide +kernel
theorem dX10_release_31 : decode cX10_release 31 = .ok (.ldc_w 286, 3) := by decide +kernel
theorem dX10_release_34 : decode cX10_release 34 = .ok (.invokespecial 118, 3) := by decide +kernel
theorem dX10_release_37 : decode cX10_release 37 = .ok (.athrow, 1) := by decide +kernel
theorem dX10_release_38 : decode cX10_release 38 = .ok (.aload_n 0, 1) := by decide +kernel
theorem dX10_release_39 : decode cX10_release 39 = .ok (.invokevirtual 241, 3) := by decide +kernel
theorem dX10_release_42 : decode cX10_release 42 = .ok (.aload_n 0, 1) := by decide +kernel
theorem dX10_release_43 : decode cX10_release 43 = .ok (.new 224, 3) := by decide +kernel
theorem dX10_release_46 : decode cX10_release 46 = .ok (.dup, 1) := by decide +kernel
theorem dX10_release_47 : decode cX10_release 47 = .ok (.iconst 3, 1) := by decide +kernel
theorem dX10_release_48 : decode cX10_release 48 = .ok (.iload_n 1, 1) := by decide +kernel
theorem dX10_release_49 : decode cX10_release 49 = .ok (.iload_n 2, 1) := by decide +kernel
theorem dX10_release_50 : decode cX10_release 50 = .ok (.iconst (-1), 1) := by decide +kernel
theorem dX10_release_51 : decode cX10_release 51 = .ok (.iconst (-1), 1) := by decide +kernel
theorem dX10_release_52 : decode cX10_release 52 = .ok (.invokespecial 250, 3) := by decide +kernel
theorem dX10_release_55 : decode cX10_release 55 = .ok (.invokevirtual 253, 3) := by decide +kernel
theorem dX10_release_58 : decode cX10_release 58 = .ok (.aload_n 0, 1) := by decide +kernel
theorem dX10_release_59 : decode cX10_release 59 = .ok (.iload_n 1, 1) := by decide +kernel
theorem dX10_release_60 : decode cX10_release 60 = .ok (.iload_n 2, 1) := by decide +kernel
theorem dX10_release_61 : decode cX10_release 61 = .ok (.invokevirtual 210, 3) := by decide +kernel
theorem dX10_release_64 : decode cX10_release 64 = .ok (.ireturn, 1) := by decide +kernel
theorem dX10_holdTrial_0 : decode cX10_holdTrial 0 = .ok (.iload_n 1, 1) := by decide +kernel
theorem dX10_holdTrial_1 : decode cX10_holdTrial 1 = .ok (.invokestatic 256, 3) := by decide +kernel
theorem dX10_holdTrial_4 : decode cX10_holdTrial 4 = .ok (.aload_n 0, 1) := by decide +kernel
theorem dX10_holdTrial_5 : decode cX10_holdTrial 5 = .ok (.iload_n 1, 1) := by decide +kernel
theorem dX10_holdTrial_6 : decode cX10_holdTrial 6 = .ok (.invokevirtual 259, 3) := by decide +kernel
theorem dX10_holdTrial_9 : decode cX10_holdTrial 9 = .ok (.aload_n 0, 1) := by decide +kernel
theorem dX10_holdTrial_10 : decode cX10_holdTrial 10 = .ok (.invokevirtual 241, 3) := by decide +kernel
theorem dX10_holdTrial_13 : decode cX10_holdTrial 13 = .ok (.aload_n 0, 1) := by decide +kernel
theorem dX10_holdTrial_14 : decode cX10_holdTrial 14 = .ok (.getfield 40, 3) := by decide +kernel
theorem dX10_holdTrial_17 : decode cX10_holdTrial 17 = .ok (.iload_n 1, 1) := by decide +kernel
theorem dX10_holdTrial_18 : decode cX10_holdTrial 18 = .ok (.aaload, 1) := by decide +kernel
theorem dX10_holdTrial_19 : decode cX10_holdTrial 19 = .ok (.iconst 1, 1) := by decide +kernel
theorem dX10_holdTrial_20 : decode cX10_holdTrial 20 = .ok (.putfield 288, 3) := by decide +kernel
theorem dX10_holdTrial_23 : decode cX10_holdTrial 23 = .ok (.aload_n 0, 1) := by decide +kernel
theorem dX10_holdTrial_24 : decode cX10_holdTrial 24 = .ok (.new 224, 3) := by decide +kernel
theorem dX10_holdTrial_27 : decode cX10_holdTrial 27 = .ok (.dup, 1) := by decide +kernel
theorem dX10_holdTrial_28 : decode cX10_holdTrial 28 = .ok (.iconst 4, 1) := by decide +kernel
theorem dX10_holdTrial_29 : decode cX10_holdTrial 29 = .ok (.iconst (-1), 1) := by decide +kernel
theorem dX10_holdTrial_30 : decode cX10_holdTrial 30 = .ok (.iconst (-1), 1) := by decide +kernel
theorem dX10_holdTrial_31 : decode cX10_holdTrial 31 = .ok (.iload_n 1, 1) := by decide +kernel
theorem dX10_holdTrial_32 : decode cX10_holdTrial 32 = .ok (.iconst (-1), 1) := by decide +kernel
theorem dX10_holdTrial_33 : decode cX10_holdTrial 33 = .ok (.invokespecial 250, 3) := by decide +kernel
theorem dX10_holdTrial_36 : decode cX10_holdTrial 36 = .ok (.invokevirtual 253, 3) := by decide +kernel
theorem dX10_holdTrial_39 : decode cX10_holdTrial 39 = .ok (.iconst 0, 1) := by decide +kernel
theorem dX10_holdTrial_40 : decode cX10_holdTrial 40 = .ok (.istore_n 2, 1) := by decide +kernel
theorem dX10_holdTrial_41 : decode cX10_holdTrial 41 = .ok (.iconst 0, 1) := by decide +kernel
theorem dX10_holdTrial_42 : decode cX10_holdTrial 42 = .ok (.istore_n 3, 1) := by decide +kernel
theorem dX10_holdTrial_43 : decode cX10_holdTrial 43 = .ok (.iload_n 3, 1) := by decide +kernel
theorem dX10_holdTrial_44 : decode cX10_holdTrial 44 = .ok (.bipush 20, 2) := by decide +kernel
theorem dX10_holdTrial_46 : decode cX10_holdTrial 46 = .ok (.if_icmp .ge 22, 3) := by decide +kernel
theorem dX10_holdTrial_49 : decode cX10_holdTrial 49 = .ok (.iload_n 2, 1) := by decide +kernel
theorem dX10_holdTrial_50 : decode cX10_holdTrial 50 = .ok (.aload_n 0, 1) := by decide +kernel
theorem dX10_holdTrial_51 : decode cX10_holdTrial 51 = .ok (.getfield 53, 3) := by decide +kernel
theorem dX10_holdTrial_54 : decode cX10_holdTrial 54 = .ok (.iload_n 3, 1) := by decide +kernel
theorem dX10_holdTrial_55 : decode cX10_holdTrial 55 = .ok (.aaload, 1) := by decide +kernel
theorem dX10_holdTrial_56 : decode cX10_holdTrial 56 = .ok (.iload_n 1, 1) := by decide +kernel
theorem dX10_holdTrial_57 : decode cX10_holdTrial 57 = .ok (.invokevirtual 292, 3) := by decide +kernel
theorem dX10_holdTrial_60 : decode cX10_holdTrial 60 = .ok (.iadd, 1) := by decide +kernel
theorem dX10_holdTrial_61 : decode cX10_holdTrial 61 = .ok (.istore_n 2, 1) := by decide +kernel
theorem dX10_holdTrial_62 : decode cX10_holdTrial 62 = .ok (.iinc 3 1, 3) := by decide +kernel
theorem dX10_holdTrial_65 : decode cX10_holdTrial 65 = .ok (.goto (-22), 3) := by decide +kernel
theorem dX10_holdTrial_68 : decode cX10_holdTrial 68 = .ok (.iload_n 2, 1) := by decide +kernel
theorem dX10_holdTrial_69 : decode cX10_holdTrial 69 = .ok (.ireturn, 1) := by decide +kernel
theorem dX10_releaseTrial_0 : decode cX10_releaseTrial 0 = .ok (.iload_n 1, 1) := by decide +kernel
theorem dX10_releaseTrial_1 : decode cX10_releaseTrial 1 = .ok (.invokestatic 256, 3) := by decide +kernel
theorem dX10_releaseTrial_4 : decode cX10_releaseTrial 4 = .ok (.aload_n 0, 1) := by decide +kernel
theorem dX10_releaseTrial_5 : decode cX10_releaseTrial 5 = .ok (.getfield 40, 3) := by decide +kernel
theorem dX10_releaseTrial_8 : decode cX10_releaseTrial 8 = .ok (.iload_n 1, 1) := by decide +kernel
theorem dX10_releaseTrial_9 : decode cX10_releaseTrial 9 = .ok (.aaload, 1) := by decide +kernel
theorem dX10_releaseTrial_10 : decode cX10_releaseTrial 10 = .ok (.getfield 288, 3) := by decide +kernel
theorem dX10_releaseTrial_13 : decode cX10_releaseTrial 13 = .ok (.ifCond .ne 14, 3) := by decide +kernel
theorem dX10_releaseTrial_16 : decode cX10_releaseTrial 16 = .ok (.new 114, 3) := by decide +kernel
theorem dX10_releaseTrial_19 : decode cX10_releaseTrial 19 = .ok (.dup, 1) := by decide +kernel
theorem dX10_releaseTrial_20 : decode cX10_releaseTrial 20 = .ok (.ldc_w 295, 3) := by decide +kernel
theorem dX10_releaseTrial_23 : decode cX10_releaseTrial 23 = .ok (.invokespecial 118, 3) := by decide +kernel
theorem dX10_releaseTrial_26 : decode cX10_releaseTrial 26 = .ok (.athrow, 1) := by decide +kernel
theorem dX10_releaseTrial_27 : decode cX10_releaseTrial 27 = .ok (.aload_n 0, 1) := by decide +kernel
theorem dX10_releaseTrial_28 : decode cX10_releaseTrial 28 = .ok (.invokevirtual 241, 3) := by decide +kernel
theorem dX10_releaseTrial_31 : decode cX10_releaseTrial 31 = .ok (.iconst 0, 1) := by decide +kernel
theorem dX10_releaseTrial_32 : decode cX10_releaseTrial 32 = .ok (.istore_n 2, 1) := by decide +kernel
theorem dX10_releaseTrial_33 : decode cX10_releaseTrial 33 = .ok (.iconst 0, 1) := by decide +kernel
theorem dX10_releaseTrial_34 : decode cX10_releaseTrial 34 = .ok (.istore_n 3, 1) := by decide +kernel
theorem dX10_releaseTrial_35 : decode cX10_releaseTrial 35 = .ok (.iload_n 3, 1) := by decide +kernel
theorem dX10_releaseTrial_36 : decode cX10_releaseTrial 36 = .ok (.bipush 20, 2) := by decide +kernel
theorem dX10_releaseTrial_38 : decode cX10_releaseTrial 38 = .ok (.if_icmp .ge 22, 3) := by decide +kernel
theorem dX10_releaseTrial_41 : decode cX10_releaseTrial 41 = .ok (.iload_n 2, 1) := by decide +kernel
theorem dX10_releaseTrial_42 : decode cX10_releaseTrial 42 = .ok (.aload_n 0, 1) := by decide +kernel
theorem dX10_releaseTrial_43 : decode cX10_releaseTrial 43 = .ok (.getfield 53, 3) := by decide +kernel
theorem dX10_releaseTrial_46 : decode cX10_releaseTrial 46 = .ok (.iload_n 3, 1) := by decide +kernel
theorem dX10_releaseTrial_47 : decode cX10_releaseTrial 47 = .ok (.aaload, 1) := by decide +kernel
theorem dX10_releaseTrial_48 : decode cX10_releaseTrial 48 = .ok (.iload_n 1, 1) := by decide +kernel
theorem dX10_releaseTrial_49 : decode cX10_releaseTrial 49 = .ok (.invokevirtual 297, 3) := by decide +kernel
theorem dX10_releaseTrial_52 : decode cX10_releaseTrial 52 = .ok (.iadd, 1) := by decide +kernel
theorem dX10_releaseTrial_53 : decode cX10_releaseTrial 53 = .ok (.istore_n 2, 1) := by decide +kernel
theorem dX10_releaseTrial_54 : decode cX10_releaseTrial 54 = .ok (.iinc 3 1, 3) := by decide +kernel
theorem dX10_releaseTrial_57 : decode cX10_releaseTrial 57 = .ok (.goto (-22), 3) := by decide +kernel
theorem dX10_releaseTrial_60 : decode cX10_releaseTrial 60 = .ok (.aload_n 0, 1) := by decide +kernel
theorem dX10_releaseTrial_61 : decode cX10_releaseTrial 61 = .ok (.getfield 40, 3) := by decide +kernel
theorem dX10_releaseTrial_64 : decode cX10_releaseTrial 64 = .ok (.iload_n 1, 1) := by decide +kernel
theorem dX10_releaseTrial_65 : decode cX10_releaseTrial 65 = .ok (.aaload, 1) := by decide +kernel
theorem dX10_releaseTrial_66 : decode cX10_releaseTrial 66 = .ok (.iconst 0, 1) := by decide +kernel
theorem dX10_releaseTrial_67 : decode cX10_releaseTrial 67 = .ok (.putfield 288, 3) := by decide +kernel
theorem dX10_releaseTrial_70 : decode cX10_releaseTrial 70 = .ok (.aload_n 0, 1) := by decide +kernel
theorem dX10_releaseTrial_71 : decode cX10_releaseTrial 71 = .ok (.new 224, 3) := by decide +kernel
theorem dX10_releaseTrial_74 : decode cX10_releaseTrial 74 = .ok (.dup, 1) := by decide +kernel
theorem dX10_releaseTrial_75 : decode cX10_releaseTrial 75 = .ok (.iconst 5, 1) := by decide +kernel
theorem dX10_releaseTrial_76 : decode cX10_releaseTrial 76 = .ok (.iconst (-1), 1) := by decide +kernel
theorem dX10_releaseTrial_77 : decode cX10_releaseTrial 77 = .ok (.iconst (-1), 1) := by decide +kernel
theorem dX10_releaseTrial_78 : decode cX10_releaseTrial 78 = .ok (.iload_n 1, 1) := by decide +kernel
theorem dX10_releaseTrial_79 : decode cX10_releaseTrial 79 = .ok (.iconst (-1), 1) := by decide +kernel
theorem dX10_releaseTrial_80 : decode cX10_releaseTrial 80 = .ok (.invokespecial 250, 3) := by decide +kernel
theorem dX10_releaseTrial_83 : decode cX10_releaseTrial 83 = .ok (.invokevirtual 253, 3) := by decide +kernel
theorem dX10_releaseTrial_86 : decode cX10_releaseTrial 86 = .ok (.iload_n 2, 1) := by decide +kernel
theorem dX10_releaseTrial_87 : decode cX10_releaseTrial 87 = .ok (.ireturn, 1) := by decide +kernel
theorem dX10_isHeld_0 : decode cX10_isHeld 0 = .ok (.iload_n 1, 1) := by decide +kernel
theorem dX10_isHeld_1 : decode cX10_isHeld 1 = .ok (.invokestatic 71, 3) := by decide +kernel
theorem dX10_isHeld_4 : decode cX10_isHeld 4 = .ok (.iload_n 2, 1) := by decide +kernel
theorem dX10_isHeld_5 : decode cX10_isHeld 5 = .ok (.invokestatic 175, 3) := by decide +kernel
theorem dX10_isHeld_8 : decode cX10_isHeld 8 = .ok (.aload_n 0, 1) := by decide +kernel
theorem dX10_isHeld_9 : decode cX10_isHeld 9 = .ok (.getfield 53, 3) := by decide +kernel
theorem dX10_isHeld_12 : decode cX10_isHeld 12 = .ok (.iload_n 1, 1) := by decide +kernel
theorem dX10_isHeld_13 : decode cX10_isHeld 13 = .ok (.aaload, 1) := by decide +kernel
theorem dX10_isHeld_14 : decode cX10_isHeld 14 = .ok (.getfield 281, 3) := by decide +kernel
theorem dX10_isHeld_17 : decode cX10_isHeld 17 = .ok (.iload_n 2, 1) := by decide +kernel
theorem dX10_isHeld_18 : decode cX10_isHeld 18 = .ok (.iaload, 1) := by decide +kernel
theorem dX10_isHeld_19 : decode cX10_isHeld 19 = .ok (.ifCond .eq 7, 3) := by decide +kernel
theorem dX10_isHeld_22 : decode cX10_isHeld 22 = .ok (.iconst 1, 1) := by decide +kernel
theorem dX10_isHeld_23 : decode cX10_isHeld 23 = .ok (.goto 4, 3) := by decide +kernel
theorem dX10_isHeld_26 : decode cX10_isHeld 26 = .ok (.iconst 0, 1) := by decide +kernel
theorem dX10_isHeld_27 : decode cX10_isHeld 27 = .ok (.ireturn, 1) := by decide +kernel
theorem dX10_entries_0 : decode cX10_entries 0 = .ok (.aload_n 0, 1) := by decide +kernel
theorem dX10_entries_1 : decode cX10_entries 1 = .ok (.getfield 47, 3) := by decide +kernel
theorem dX10_entries_4 : decode cX10_entries 4 = .ok (.invokevirtual 216, 3) := by decide +kernel
theorem dX10_entries_7 : decode cX10_entries 7 = .ok (.ireturn, 1) := by decide +kernel
theorem dX10_shownLast_0 : decode cX10_shownLast 0 = .ok (.iload_n 1, 1) := by decide +kernel
theorem dX10_shownLast_1 : decode cX10_shownLast 1 = .ok (.invokestatic 71, 3) := by decide +kernel
theorem dX10_shownLast_4 : decode cX10_shownLast 4 = .ok (.iload_n 2, 1) := by decide +kernel
theorem dX10_shownLast_5 : decode cX10_shownLast 5 = .ok (.invokestatic 175, 3) := by decide +kernel
theorem dX10_shownLast_8 : decode cX10_shownLast 8 = .ok (.aload_n 0, 1) := by decide +kernel
theorem dX10_shownLast_9 : decode cX10_shownLast 9 = .ok (.getfield 53, 3) := by decide +kernel
theorem dX10_shownLast_12 : decode cX10_shownLast 12 = .ok (.iload_n 1, 1) := by decide +kernel
theorem dX10_shownLast_13 : decode cX10_shownLast 13 = .ok (.aaload, 1) := by decide +kernel
theorem dX10_shownLast_14 : decode cX10_shownLast 14 = .ok (.getfield 300, 3) := by decide +kernel
theorem dX10_shownLast_17 : decode cX10_shownLast 17 = .ok (.iload_n 2, 1) := by decide +kernel
theorem dX10_shownLast_18 : decode cX10_shownLast 18 = .ok (.iaload, 1) := by decide +kernel
theorem dX10_shownLast_19 : decode cX10_shownLast 19 = .ok (.ireturn, 1) := by decide +kernel
theorem dX10_checkRange_0 : decode cX10_checkRange 0 = .ok (.iload_n 0, 1) := by decide +kernel
theorem dX10_checkRange_1 : decode cX10_checkRange 1 = .ok (.iload_n 1, 1) := by decide +kernel
theorem dX10_checkRange_2 : decode cX10_checkRange 2 = .ok (.if_icmp .lt 8, 3) := by decide +kernel
theorem dX10_checkRange_5 : decode cX10_checkRange 5 = .ok (.iload_n 0, 1) := by decide +kernel
theorem dX10_checkRange_6 : decode cX10_checkRange 6 = .ok (.iload_n 2, 1) := by decide +kernel
theorem dX10_checkRange_7 : decode cX10_checkRange 7 = .ok (.if_icmp .le 14, 3) := by decide +kernel
theorem dX10_checkRange_10 : decode cX10_checkRange 10 = .ok (.new 124, 3) := by decide +kernel
theorem dX10_checkRange_13 : decode cX10_checkRange 13 = .ok (.dup, 1) := by decide +kernel
theorem dX10_checkRange_14 : decode cX10_checkRange 14 = .ok (.ldc_w 303, 3) := by decide +kernel
theorem dX10_checkRange_17 : decode cX10_checkRange 17 = .ok (.invokespecial 128, 3) := by decide +kernel
theorem dX10_checkRange_20 : decode cX10_checkRange 20 = .ok (.athrow, 1) := by decide +kernel
theorem dX10_checkRange_21 : decode cX10_checkRange 21 = .ok (.return_, 1) := by decide +kernel
theorem dX10_checkPerson_0 : decode cX10_checkPerson 0 = .ok (.iload_n 0, 1) := by decide +kernel
theorem dX10_checkPerson_1 : decode cX10_checkPerson 1 = .ok (.iconst 0, 1) := by decide +kernel
theorem dX10_checkPerson_2 : decode cX10_checkPerson 2 = .ok (.bipush 19, 2) := by decide +kernel
theorem dX10_checkPerson_4 : decode cX10_checkPerson 4 = .ok (.invokestatic 74, 3) := by decide +kernel
theorem dX10_checkPerson_7 : decode cX10_checkPerson 7 = .ok (.return_, 1) := by decide +kernel
theorem dX10_checkAudience_0 : decode cX10_checkAudience 0 = .ok (.iload_n 0, 1) := by decide +kernel
theorem dX10_checkAudience_1 : decode cX10_checkAudience 1 = .ok (.iconst 0, 1) := by decide +kernel
theorem dX10_checkAudience_2 : decode cX10_checkAudience 2 = .ok (.iconst 5, 1) := by decide +kernel
theorem dX10_checkAudience_3 : decode cX10_checkAudience 3 = .ok (.invokestatic 74, 3) := by decide +kernel
theorem dX10_checkAudience_6 : decode cX10_checkAudience 6 = .ok (.return_, 1) := by decide +kernel
theorem dX10_checkFlag_0 : decode cX10_checkFlag 0 = .ok (.iload_n 0, 1) := by decide +kernel
theorem dX10_checkFlag_1 : decode cX10_checkFlag 1 = .ok (.iconst 0, 1) := by decide +kernel
theorem dX10_checkFlag_2 : decode cX10_checkFlag 2 = .ok (.bipush 7, 2) := by decide +kernel
theorem dX10_checkFlag_4 : decode cX10_checkFlag 4 = .ok (.invokestatic 74, 3) := by decide +kernel
theorem dX10_checkFlag_7 : decode cX10_checkFlag 7 = .ok (.return_, 1) := by decide +kernel
theorem dX10_checkTrial_0 : decode cX10_checkTrial 0 = .ok (.iload_n 0, 1) := by decide +kernel
theorem dX10_checkTrial_1 : decode cX10_checkTrial 1 = .ok (.iconst 0, 1) := by decide +kernel
theorem dX10_checkTrial_2 : decode cX10_checkTrial 2 = .ok (.iconst 5, 1) := by decide +kernel
theorem dX10_checkTrial_3 : decode cX10_checkTrial 3 = .ok (.invokestatic 74, 3) := by decide +kernel
theorem dX10_checkTrial_6 : decode cX10_checkTrial 6 = .ok (.return_, 1) := by decide +kernel
theorem dX10_checkVariant_0 : decode cX10_checkVariant 0 = .ok (.iload_n 0, 1) := by decide +kernel
theorem dX10_checkVariant_1 : decode cX10_checkVariant 1 = .ok (.iconst 0, 1) := by decide +kernel
theorem dX10_checkVariant_2 : decode cX10_checkVariant 2 = .ok (.iconst 3, 1) := by decide +kernel
theorem dX10_checkVariant_3 : decode cX10_checkVariant 3 = .ok (.invokestatic 74, 3) := by decide +kernel
theorem dX10_checkVariant_6 : decode cX10_checkVariant 6 = .ok (.return_, 1) := by decide +kernel
theorem dX10_checkSettable_0 : decode cX10_checkSettable 0 = .ok (.aload_n 0, 1) := by decide +kernel
theorem dX10_checkSettable_1 : decode cX10_checkSettable 1 = .ok (.getfield 19, 3) := by decide +kernel
theorem dX10_checkSettable_4 : decode cX10_checkSettable 4 = .ok (.iload_n 1, 1) := by decide +kernel
theorem dX10_checkSettable_5 : decode cX10_checkSettable 5 = .ok (.invokevirtual 305, 3) := by decide +kernel
theorem dX10_checkSettable_8 : decode cX10_checkSettable 8 = .ok (.ifCond .ne 14, 3) := by decide +kernel
theorem dX10_checkSettable_11 : decode cX10_checkSettable 11 = .ok (.new 114, 3) := by decide +kernel
theorem dX10_checkSettable_14 : decode cX10_checkSettable 14 = .ok (.dup, 1) := by decide +kernel
theorem dX10_checkSettable_15 : decode cX10_checkSettable 15 = .ok (.ldc_w 308, 3) := by decide +kernel
theorem dX10_checkSettable_18 : decode cX10_checkSettable 18 = .ok (.invokespecial 118, 3) := by decide +kernel
theorem dX10_checkSettable_21 : decode cX10_checkSettable 21 = .ok (.athrow, 1) := by decide +kernel
theorem dX10_checkSettable_22 : decode cX10_checkSettable 22 = .ok (.return_, 1) := by decide +kernel
theorem dX10_checkNotHeld_0 : decode cX10_checkNotHeld 0 = .ok (.aload_n 0, 1) := by decide +kernel
theorem dX10_checkNotHeld_1 : decode cX10_checkNotHeld 1 = .ok (.getfield 40, 3) := by decide +kernel
theorem dX10_checkNotHeld_4 : decode cX10_checkNotHeld 4 = .ok (.iload_n 1, 1) := by decide +kernel
theorem dX10_checkNotHeld_5 : decode cX10_checkNotHeld 5 = .ok (.aaload, 1) := by decide +kernel
theorem dX10_checkNotHeld_6 : decode cX10_checkNotHeld 6 = .ok (.getfield 288, 3) := by decide +kernel
theorem dX10_checkNotHeld_9 : decode cX10_checkNotHeld 9 = .ok (.ifCond .eq 14, 3) := by decide +kernel
theorem dX10_checkNotHeld_12 : decode cX10_checkNotHeld 12 = .ok (.new 114, 3) := by decide +kernel
theorem dX10_checkNotHeld_15 : decode cX10_checkNotHeld 15 = .ok (.dup, 1) := by decide +kernel
theorem dX10_checkNotHeld_16 : decode cX10_checkNotHeld 16 = .ok (.ldc_w 310, 3) := by decide +kernel
theorem dX10_checkNotHeld_19 : decode cX10_checkNotHeld 19 = .ok (.invokespecial 118, 3) := by decide +kernel
theorem dX10_checkNotHeld_22 : decode cX10_checkNotHeld 22 = .ok (.athrow, 1) := by decide +kernel
theorem dX10_checkNotHeld_23 : decode cX10_checkNotHeld 23 = .ok (.return_, 1) := by decide +kernel
theorem dX10_checkLog_0 : decode cX10_checkLog 0 = .ok (.aload_n 0, 1) := by decide +kernel
theorem dX10_checkLog_1 : decode cX10_checkLog 1 = .ok (.getfield 47, 3) := by decide +kernel
theorem dX10_checkLog_4 : decode cX10_checkLog 4 = .ok (.invokevirtual 216, 3) := by decide +kernel
theorem dX10_checkLog_7 : decode cX10_checkLog 7 = .ok (.sipush 400, 3) := by decide +kernel
theorem dX10_checkLog_10 : decode cX10_checkLog 10 = .ok (.if_icmp .lt 14, 3) := by decide +kernel
theorem dX10_checkLog_13 : decode cX10_checkLog 13 = .ok (.new 114, 3) := by decide +kernel
theorem dX10_checkLog_16 : decode cX10_checkLog 16 = .ok (.dup, 1) := by decide +kernel
theorem dX10_checkLog_17 : decode cX10_checkLog 17 = .ok (.ldc_w 312, 3) := by decide +kernel
theorem dX10_checkLog_20 : decode cX10_checkLog 20 = .ok (.invokespecial 118, 3) := by decide +kernel
theorem dX10_checkLog_23 : decode cX10_checkLog 23 = .ok (.athrow, 1) := by decide +kernel
theorem dX10_checkLog_24 : decode cX10_checkLog 24 = .ok (.return_, 1) := by decide +kernel
theorem dX10_mostOf_0 : decode cX10_mostOf 0 = .ok (.iload_n 0, 1) := by decide +kernel
theorem dX10_mostOf_1 : decode cX10_mostOf 1 = .ok (.ifCond .ne 8, 3) := by decide +kernel
theorem dX10_mostOf_4 : decode cX10_mostOf 4 = .ok (.bipush 9, 2) := by decide +kernel
theorem dX10_mostOf_6 : decode cX10_mostOf 6 = .ok (.goto 14, 3) := by decide +kernel
theorem dX10_mostOf_9 : decode cX10_mostOf 9 = .ok (.iload_n 0, 1) := by decide +kernel
theorem dX10_mostOf_10 : decode cX10_mostOf 10 = .ok (.iconst 1, 1) := by decide +kernel
theorem dX10_mostOf_11 : decode cX10_mostOf 11 = .ok (.if_icmp .ne 8, 3) := by decide +kernel
theorem dX10_mostOf_14 : decode cX10_mostOf 14 = .ok (.bipush 99, 2) := by decide +kernel
theorem dX10_mostOf_16 : decode cX10_mostOf 16 = .ok (.goto 4, 3) := by decide +kernel
theorem dX10_mostOf_19 : decode cX10_mostOf 19 = .ok (.iconst 3, 1) := by decide +kernel
theorem dX10_mostOf_20 : decode cX10_mostOf 20 = .ok (.ireturn, 1) := by decide +kernel
theorem dX10_hasBit_0 : decode cX10_hasBit 0 = .ok (.iload_n 0, 1) := by decide +kernel
theorem dX10_hasBit_1 : decode cX10_hasBit 1 = .ok (.iload_n 1, 1) := by decide +kernel
theorem dX10_hasBit_2 : decode cX10_hasBit 2 = .ok (.ishr, 1) := by decide +kernel
theorem dX10_hasBit_3 : decode cX10_hasBit 3 = .ok (.iconst 1, 1) := by decide +kernel
theorem dX10_hasBit_4 : decode cX10_hasBit 4 = .ok (.iand, 1) := by decide +kernel
theorem dX10_hasBit_5 : decode cX10_hasBit 5 = .ok (.ifCond .eq 7, 3) := by decide +kernel
theorem dX10_hasBit_8 : decode cX10_hasBit 8 = .ok (.iconst 1, 1) := by decide +kernel
theorem dX10_hasBit_9 : decode cX10_hasBit 9 = .ok (.goto 4, 3) := by decide +kernel
theorem dX10_hasBit_12 : decode cX10_hasBit 12 = .ok (.iconst 0, 1) := by decide +kernel
theorem dX10_hasBit_13 : decode cX10_hasBit 13 = .ok (.ireturn, 1) := by decide +kernel
theorem dX10_withBit_0 : decode cX10_withBit 0 = .ok (.iload_n 2, 1) := by decide +kernel
theorem dX10_withBit_1 : decode cX10_withBit 1 = .ok (.ifCond .eq 11, 3) := by decide +kernel
theorem dX10_withBit_4 : decode cX10_withBit 4 = .ok (.iload_n 0, 1) := by decide +kernel
theorem dX10_withBit_5 : decode cX10_withBit 5 = .ok (.iconst 1, 1) := by decide +kernel
theorem dX10_withBit_6 : decode cX10_withBit 6 = .ok (.iload_n 1, 1) := by decide +kernel
theorem dX10_withBit_7 : decode cX10_withBit 7 = .ok (.ishl, 1) := by decide +kernel
theorem dX10_withBit_8 : decode cX10_withBit 8 = .ok (.ior, 1) := by decide +kernel
theorem dX10_withBit_9 : decode cX10_withBit 9 = .ok (.goto 10, 3) := by decide +kernel
theorem dX10_withBit_12 : decode cX10_withBit 12 = .ok (.iload_n 0, 1) := by decide +kernel
theorem dX10_withBit_13 : decode cX10_withBit 13 = .ok (.iconst 1, 1) := by decide +kernel
theorem dX10_withBit_14 : decode cX10_withBit 14 = .ok (.iload_n 1, 1) := by decide +kernel
theorem dX10_withBit_15 : decode cX10_withBit 15 = .ok (.ishl, 1) := by decide +kernel
theorem dX10_withBit_16 : decode cX10_withBit 16 = .ok (.iconst (-1), 1) := by decide +kernel
theorem dX10_withBit_17 : decode cX10_withBit 17 = .ok (.ixor, 1) := by decide +kernel
theorem dX10_withBit_18 : decode cX10_withBit 18 = .ok (.iand, 1) := by decide +kernel
theorem dX10_withBit_19 : decode cX10_withBit 19 = .ok (.ireturn, 1) := by decide +kernel
theorem dX10_differ_0 : decode cX10_differ 0 = .ok (.iconst 0, 1) := by decide +kernel
theorem dX10_differ_1 : decode cX10_differ 1 = .ok (.istore_n 2, 1) := by decide +kernel
theorem dX10_differ_2 : decode cX10_differ 2 = .ok (.iload_n 2, 1) := by decide +kernel
theorem dX10_differ_3 : decode cX10_differ 3 = .ok (.bipush 8, 2) := by decide +kernel
theorem dX10_differ_5 : decode cX10_differ 5 = .ok (.if_icmp .ge 20, 3) := by decide +kernel
theorem dX10_differ_8 : decode cX10_differ 8 = .ok (.aload_n 0, 1) := by decide +kernel
theorem dX10_differ_9 : decode cX10_differ 9 = .ok (.iload_n 2, 1) := by decide +kernel
theorem dX10_differ_10 : decode cX10_differ 10 = .ok (.iaload, 1) := by decide +kernel
theorem dX10_differ_11 : decode cX10_differ 11 = .ok (.aload_n 1, 1) := by decide +kernel
theorem dX10_differ_12 : decode cX10_differ 12 = .ok (.iload_n 2, 1) := by decide +kernel
theorem dX10_differ_13 : decode cX10_differ 13 = .ok (.iaload, 1) := by decide +kernel
theorem dX10_differ_14 : decode cX10_differ 14 = .ok (.if_icmp .eq 5, 3) := by decide +kernel
theorem dX10_differ_17 : decode cX10_differ 17 = .ok (.iconst 1, 1) := by decide +kernel
theorem dX10_differ_18 : decode cX10_differ 18 = .ok (.ireturn, 1) := by decide +kernel
theorem dX10_differ_19 : decode cX10_differ 19 = .ok (.iinc 2 1, 3) := by decide +kernel
theorem dX10_differ_22 : decode cX10_differ 22 = .ok (.goto (-20), 3) := by decide +kernel
theorem dX10_differ_25 : decode cX10_differ 25 = .ok (.iconst 0, 1) := by decide +kernel
theorem dX10_differ_26 : decode cX10_differ 26 = .ok (.ireturn, 1) := by decide +kernel
theorem dX10_enter_0 : decode cX10_enter 0 = .ok (.aload_n 0, 1) := by decide +kernel
theorem dX10_enter_1 : decode cX10_enter 1 = .ok (.getfield 47, 3) := by decide +kernel
theorem dX10_enter_4 : decode cX10_enter 4 = .ok (.aload_n 1, 1) := by decide +kernel
theorem dX10_enter_5 : decode cX10_enter 5 = .ok (.invokevirtual 314, 3) := by decide +kernel
theorem dX10_enter_8 : decode cX10_enter 8 = .ok (.pop, 1) := by decide +kernel
theorem dX10_enter_9 : decode cX10_enter 9 = .ok (.iconst 0, 1) := by decide +kernel
theorem dX10_enter_10 : decode cX10_enter 10 = .ok (.istore_n 2, 1) := by decide +kernel
theorem dX10_enter_11 : decode cX10_enter 11 = .ok (.iload_n 2, 1) := by decide +kernel
theorem dX10_enter_12 : decode cX10_enter 12 = .ok (.bipush 20, 2) := by decide +kernel
theorem dX10_enter_14 : decode cX10_enter 14 = .ok (.if_icmp .ge 27, 3) := by decide +kernel
theorem dX10_enter_17 : decode cX10_enter 17 = .ok (.aload_n 1, 1) := by decide +kernel
theorem dX10_enter_18 : decode cX10_enter 18 = .ok (.iload_n 2, 1) := by decide +kernel
theorem dX10_enter_19 : decode cX10_enter 19 = .ok (.invokevirtual 226, 3) := by decide +kernel
theorem dX10_enter_22 : decode cX10_enter 22 = .ok (.ifCond .eq 13, 3) := by decide +kernel
theorem dX10_enter_25 : decode cX10_enter 25 = .ok (.aload_n 0, 1) := by decide +kernel
theorem dX10_enter_26 : decode cX10_enter 26 = .ok (.getfield 53, 3) := by decide +kernel
theorem dX10_enter_29 : decode cX10_enter 29 = .ok (.iload_n 2, 1) := by decide +kernel
theorem dX10_enter_30 : decode cX10_enter 30 = .ok (.aaload, 1) := by decide +kernel
theorem dX10_enter_31 : decode cX10_enter 31 = .ok (.aload_n 1, 1) := by decide +kernel
theorem dX10_enter_32 : decode cX10_enter 32 = .ok (.invokevirtual 230, 3) := by decide +kernel
theorem dX10_enter_35 : decode cX10_enter 35 = .ok (.iinc 2 1, 3) := by decide +kernel
theorem dX10_enter_38 : decode cX10_enter 38 = .ok (.goto (-27), 3) := by decide +kernel
theorem dX10_enter_41 : decode cX10_enter 41 = .ok (.return_, 1) := by decide +kernel
theorem dX10_viewNow_0 : decode cX10_viewNow 0 = .ok (.aload_n 0, 1) := by decide +kernel
theorem dX10_viewNow_1 : decode cX10_viewNow 1 = .ok (.aload_n 0, 1) := by decide +kernel
theorem dX10_viewNow_2 : decode cX10_viewNow 2 = .ok (.getfield 62, 3) := by decide +kernel
theorem dX10_viewNow_5 : decode cX10_viewNow 5 = .ok (.iload_n 1, 1) := by decide +kernel
theorem dX10_viewNow_6 : decode cX10_viewNow 6 = .ok (.aload_n 0, 1) := by decide +kernel
theorem dX10_viewNow_7 : decode cX10_viewNow 7 = .ok (.getfield 19, 3) := by decide +kernel
theorem dX10_viewNow_10 : decode cX10_viewNow 10 = .ok (.getfield 153, 3) := by decide +kernel
theorem dX10_viewNow_13 : decode cX10_viewNow 13 = .ok (.aload_n 0, 1) := by decide +kernel
theorem dX10_viewNow_14 : decode cX10_viewNow 14 = .ok (.getfield 53, 3) := by decide +kernel
theorem dX10_viewNow_17 : decode cX10_viewNow 17 = .ok (.iload_n 1, 1) := by decide +kernel
theorem dX10_viewNow_18 : decode cX10_viewNow 18 = .ok (.aaload, 1) := by decide +kernel
theorem dX10_viewNow_19 : decode cX10_viewNow 19 = .ok (.invokevirtual 167, 3) := by decide +kernel
theorem dX10_viewNow_22 : decode cX10_viewNow 22 = .ok (.aload_n 0, 1) := by decide +kernel
theorem dX10_viewNow_23 : decode cX10_viewNow 23 = .ok (.getfield 62, 3) := by decide +kernel
theorem dX10_viewNow_26 : decode cX10_viewNow 26 = .ok (.iload_n 2, 1) := by decide +kernel
theorem dX10_viewNow_27 : decode cX10_viewNow 27 = .ok (.iaload, 1) := by decide +kernel
theorem dX10_viewNow_28 : decode cX10_viewNow 28 = .ok (.ireturn, 1) := by decide +kernel
theorem dX10_armNow_0 : decode cX10_armNow 0 = .ok (.aload_n 0, 1) := by decide +kernel
theorem dX10_armNow_1 : decode cX10_armNow 1 = .ok (.getfield 40, 3) := by decide +kernel
theorem dX10_armNow_4 : decode cX10_armNow 4 = .ok (.iload_n 1, 1) := by decide +kernel
theorem dX10_armNow_5 : decode cX10_armNow 5 = .ok (.aaload, 1) := by decide +kernel
theorem dX10_armNow_6 : decode cX10_armNow 6 = .ok (.iload_n 2, 1) := by decide +kernel
theorem dX10_armNow_7 : decode cX10_armNow 7 = .ok (.aload_n 0, 1) := by decide +kernel
theorem dX10_armNow_8 : decode cX10_armNow 8 = .ok (.getfield 53, 3) := by decide +kernel
theorem dX10_armNow_11 : decode cX10_armNow 11 = .ok (.iload_n 2, 1) := by decide +kernel
theorem dX10_armNow_12 : decode cX10_armNow 12 = .ok (.aaload, 1) := by decide +kernel
theorem dX10_armNow_13 : decode cX10_armNow 13 = .ok (.getfield 278, 3) := by decide +kernel
theorem dX10_armNow_16 : decode cX10_armNow 16 = .ok (.iload_n 1, 1) := by decide +kernel
theorem dX10_armNow_17 : decode cX10_armNow 17 = .ok (.iaload, 1) := by decide +kernel
theorem dX10_armNow_18 : decode cX10_armNow 18 = .ok (.invokevirtual 318, 3) := by decide +kernel
theorem dX10_armNow_21 : decode cX10_armNow 21 = .ok (.ireturn, 1) := by decide +kernel
theorem dX10_findViews_0 : decode cX10_findViews 0 = .ok (.iconst 0, 1) := by decide +kernel
theorem dX10_findViews_1 : decode cX10_findViews 1 = .ok (.istore 5, 2) := by decide +kernel
theorem dX10_findViews_3 : decode cX10_findViews 3 = .ok (.iconst 0, 1) := by decide +kernel
theorem dX10_findViews_4 : decode cX10_findViews 4 = .ok (.istore 6, 2) := by decide +kernel
theorem dX10_findViews_6 : decode cX10_findViews 6 = .ok (.iload 6, 2) := by decide +kernel
theorem dX10_findViews_8 : decode cX10_findViews 8 = .ok (.bipush 8, 2) := by decide +kernel
theorem dX10_findViews_10 : decode cX10_findViews 10 = .ok (.if_icmp .ge 106, 3) := by decide +kernel
theorem dX10_findViews_13 : decode cX10_findViews 13 = .ok (.aload_n 0, 1) := by decide +kernel
theorem dX10_findViews_14 : decode cX10_findViews 14 = .ok (.getfield 34, 3) := by decide +kernel
theorem dX10_findViews_17 : decode cX10_findViews 17 = .ok (.getfield 321, 3) := by decide +kernel
theorem dX10_findViews_20 : decode cX10_findViews 20 = .ok (.iload 6, 2) := by decide +kernel
theorem dX10_findViews_22 : decode cX10_findViews 22 = .ok (.iaload, 1) := by decide +kernel
theorem dX10_findViews_23 : decode cX10_findViews 23 = .ok (.istore 7, 2) := by decide +kernel
theorem dX10_findViews_25 : decode cX10_findViews 25 = .ok (.aload 4, 2) := by decide +kernel
theorem dX10_findViews_27 : decode cX10_findViews 27 = .ok (.getfield 281, 3) := by decide +kernel
theorem dX10_findViews_30 : decode cX10_findViews 30 = .ok (.iload 7, 2) := by decide +kernel
theorem dX10_findViews_32 : decode cX10_findViews 32 = .ok (.iaload, 1) := by decide +kernel
theorem dX10_findViews_33 : decode cX10_findViews 33 = .ok (.ifCond .eq 18, 3) := by decide +kernel
theorem dX10_findViews_36 : decode cX10_findViews 36 = .ok (.aload_n 1, 1) := by decide +kernel
theorem dX10_findViews_37 : decode cX10_findViews 37 = .ok (.iload 7, 2) := by decide +kernel
theorem dX10_findViews_39 : decode cX10_findViews 39 = .ok (.aload 4, 2) := by decide +kernel
theorem dX10_findViews_41 : decode cX10_findViews 41 = .ok (.getfield 324, 3) := by decide +kernel
theorem dX10_findViews_44 : decode cX10_findViews 44 = .ok (.iload 7, 2) := by decide +kernel
theorem dX10_findViews_46 : decode cX10_findViews 46 = .ok (.iaload, 1) := by decide +kernel
theorem dX10_findViews_47 : decode cX10_findViews 47 = .ok (.iastore, 1) := by decide +kernel
theorem dX10_findViews_48 : decode cX10_findViews 48 = .ok (.goto 41, 3) := by decide +kernel
theorem dX10_findViews_51 : decode cX10_findViews 51 = .ok (.aload_n 0, 1) := by decide +kernel
theorem dX10_findViews_52 : decode cX10_findViews 52 = .ok (.getfield 34, 3) := by decide +kernel
theorem dX10_findViews_55 : decode cX10_findViews 55 = .ok (.getfield 198, 3) := by decide +kernel
theorem dX10_findViews_58 : decode cX10_findViews 58 = .ok (.iload 7, 2) := by decide +kernel
theorem dX10_findViews_60 : decode cX10_findViews 60 = .ok (.iaload, 1) := by decide +kernel
theorem dX10_findViews_61 : decode cX10_findViews 61 = .ok (.iload 5, 2) := by decide +kernel
theorem dX10_findViews_63 : decode cX10_findViews 63 = .ok (.iand, 1) := by decide +kernel
theorem dX10_findViews_64 : decode cX10_findViews 64 = .ok (.ifCond .eq 11, 3) := by decide +kernel
theorem dX10_findViews_67 : decode cX10_findViews 67 = .ok (.aload_n 1, 1) := by decide +kernel
theorem dX10_findViews_68 : decode cX10_findViews 68 = .ok (.iload 7, 2) := by decide +kernel
theorem dX10_findViews_70 : decode cX10_findViews 70 = .ok (.iconst 0, 1) := by decide +kernel
theorem dX10_findViews_71 : decode cX10_findViews 71 = .ok (.iastore, 1) := by decide +kernel
theorem dX10_findViews_72 : decode cX10_findViews 72 = .ok (.goto 17, 3) := by decide +kernel
theorem dX10_findViews_75 : decode cX10_findViews 75 = .ok (.aload_n 1, 1) := by decide +kernel
theorem dX10_findViews_76 : decode cX10_findViews 76 = .ok (.iload 7, 2) := by decide +kernel
theorem dX10_findViews_78 : decode cX10_findViews 78 = .ok (.aload_n 0, 1) := by decide +kernel
theorem dX10_findViews_79 : decode cX10_findViews 79 = .ok (.iload_n 2, 1) := by decide +kernel
theorem dX10_findViews_80 : decode cX10_findViews 80 = .ok (.iload 7, 2) := by decide +kernel
theorem dX10_findViews_82 : decode cX10_findViews 82 = .ok (.aload_n 3, 1) := by decide +kernel
theorem dX10_findViews_83 : decode cX10_findViews 83 = .ok (.aload 4, 2) := by decide +kernel
theorem dX10_findViews_85 : decode cX10_findViews 85 = .ok (.invokevirtual 327, 3) := by decide +kernel
theorem dX10_findViews_88 : decode cX10_findViews 88 = .ok (.iastore, 1) := by decide +kernel
theorem dX10_findViews_89 : decode cX10_findViews 89 = .ok (.iload 5, 2) := by decide +kernel
theorem dX10_findViews_91 : decode cX10_findViews 91 = .ok (.iload 7, 2) := by decide +kernel
theorem dX10_findViews_93 : decode cX10_findViews 93 = .ok (.aload_n 1, 1) := by decide +kernel
theorem dX10_findViews_94 : decode cX10_findViews 94 = .ok (.iload 7, 2) := by decide +kernel
theorem dX10_findViews_96 : decode cX10_findViews 96 = .ok (.iaload, 1) := by decide +kernel
theorem dX10_findViews_97 : decode cX10_findViews 97 = .ok (.ifCond .ne 7, 3) := by decide +kernel
theorem dX10_findViews_100 : decode cX10_findViews 100 = .ok (.iconst 1, 1) := by decide +kernel
theorem dX10_findViews_101 : decode cX10_findViews 101 = .ok (.goto 4, 3) := by decide +kernel
theorem dX10_findViews_104 : decode cX10_findViews 104 = .ok (.iconst 0, 1) := by decide +kernel
theorem dX10_findViews_105 : decode cX10_findViews 105 = .ok (.invokestatic 97, 3) := by decide +kernel
theorem dX10_findViews_108 : decode cX10_findViews 108 = .ok (.istore 5, 2) := by decide +kernel
theorem dX10_findViews_110 : decode cX10_findViews 110 = .ok (.iinc 6 1, 3) := by decide +kernel
theorem dX10_findViews_113 : decode cX10_findViews 113 = .ok (.goto (-107), 3) := by decide +kernel
theorem dX10_findViews_116 : decode cX10_findViews 116 = .ok (.return_, 1) := by decide +kernel
theorem dX10_decidedView_0 : decode cX10_decidedView 0 = .ok (.aload_n 0, 1) := by decide +kernel
theorem dX10_decidedView_1 : decode cX10_decidedView 1 = .ok (.getfield 25, 3) := by decide +kernel
theorem dX10_decidedView_4 : decode cX10_decidedView 4 = .ok (.iload_n 2, 1) := by decide +kernel
theorem dX10_decidedView_5 : decode cX10_decidedView 5 = .ok (.aaload, 1) := by decide +kernel
theorem dX10_decidedView_6 : decode cX10_decidedView 6 = .ok (.iload_n 1, 1) := by decide +kernel
theorem dX10_decidedView_7 : decode cX10_decidedView 7 = .ok (.aload_n 3, 1) := by decide +kernel
theorem dX10_decidedView_8 : decode cX10_decidedView 8 = .ok (.invokevirtual 234, 3) := by decide +kernel
theorem dX10_decidedView_11 : decode cX10_decidedView 11 = .ok (.istore 5, 2) := by decide +kernel
theorem dX10_decidedView_13 : decode cX10_decidedView 13 = .ok (.iload 5, 2) := by decide +kernel
theorem dX10_decidedView_15 : decode cX10_decidedView 15 = .ok (.iconst (-1), 1) := by decide +kernel
theorem dX10_decidedView_16 : decode cX10_decidedView 16 = .ok (.if_icmp .ne 5, 3) := by decide +kernel
theorem dX10_decidedView_19 : decode cX10_decidedView 19 = .ok (.iconst 0, 1) := by decide +kernel
theorem dX10_decidedView_20 : decode cX10_decidedView 20 = .ok (.ireturn, 1) := by decide +kernel
theorem dX10_decidedView_21 : decode cX10_decidedView 21 = .ok (.aload_n 0, 1) := by decide +kernel
theorem dX10_decidedView_22 : decode cX10_decidedView 22 = .ok (.getfield 25, 3) := by decide +kernel
theorem dX10_decidedView_25 : decode cX10_decidedView 25 = .ok (.iload_n 2, 1) := by decide +kernel
theorem dX10_decidedView_26 : decode cX10_decidedView 26 = .ok (.aaload, 1) := by decide +kernel
theorem dX10_decidedView_27 : decode cX10_decidedView 27 = .ok (.iload 5, 2) := by decide +kernel
theorem dX10_decidedView_29 : decode cX10_decidedView 29 = .ok (.invokevirtual 331, 3) := by decide +kernel
theorem dX10_decidedView_32 : decode cX10_decidedView 32 = .ok (.istore 6, 2) := by decide +kernel
theorem dX10_decidedView_34 : decode cX10_decidedView 34 = .ok (.iload 6, 2) := by decide +kernel
theorem dX10_decidedView_36 : decode cX10_decidedView 36 = .ok (.iconst (-1), 1) := by decide +kernel
theorem dX10_decidedView_37 : decode cX10_decidedView 37 = .ok (.if_icmp .ne 17, 3) := by decide +kernel
theorem dX10_decidedView_40 : decode cX10_decidedView 40 = .ok (.aload_n 0, 1) := by decide +kernel
theorem dX10_decidedView_41 : decode cX10_decidedView 41 = .ok (.getfield 25, 3) := by decide +kernel
theorem dX10_decidedView_44 : decode cX10_decidedView 44 = .ok (.iload_n 2, 1) := by decide +kernel
theorem dX10_decidedView_45 : decode cX10_decidedView 45 = .ok (.aaload, 1) := by decide +kernel
theorem dX10_decidedView_46 : decode cX10_decidedView 46 = .ok (.iload 5, 2) := by decide +kernel
theorem dX10_decidedView_48 : decode cX10_decidedView 48 = .ok (.invokevirtual 190, 3) := by decide +kernel
theorem dX10_decidedView_51 : decode cX10_decidedView 51 = .ok (.goto 22, 3) := by decide +kernel
theorem dX10_decidedView_54 : decode cX10_decidedView 54 = .ok (.aload_n 0, 1) := by decide +kernel
theorem dX10_decidedView_55 : decode cX10_decidedView 55 = .ok (.getfield 40, 3) := by decide +kernel
theorem dX10_decidedView_58 : decode cX10_decidedView 58 = .ok (.iload 6, 2) := by decide +kernel
theorem dX10_decidedView_60 : decode cX10_decidedView 60 = .ok (.aaload, 1) := by decide +kernel
theorem dX10_decidedView_61 : decode cX10_decidedView 61 = .ok (.iload_n 1, 1) := by decide +kernel
theorem dX10_decidedView_62 : decode cX10_decidedView 62 = .ok (.aload 4, 2) := by decide +kernel
theorem dX10_decidedView_64 : decode cX10_decidedView 64 = .ok (.getfield 278, 3) := by decide +kernel
theorem dX10_decidedView_67 : decode cX10_decidedView 67 = .ok (.iload 6, 2) := by decide +kernel
theorem dX10_decidedView_69 : decode cX10_decidedView 69 = .ok (.iaload, 1) := by decide +kernel
theorem dX10_decidedView_70 : decode cX10_decidedView 70 = .ok (.invokevirtual 318, 3) := by decide +kernel
theorem dX10_decidedView_73 : decode cX10_decidedView 73 = .ok (.ireturn, 1) := by decide +kernel
theorem dX10_trialThatShows_0 : decode cX10_trialThatShows 0 = .ok (.aload_n 0, 1) := by decide +kernel
theorem dX10_trialThatShows_1 : decode cX10_trialThatShows 1 = .ok (.getfield 53, 3) := by decide +kernel
theorem dX10_trialThatShows_4 : decode cX10_trialThatShows 4 = .ok (.iload_n 1, 1) := by decide +kernel
theorem dX10_trialThatShows_5 : decode cX10_trialThatShows 5 = .ok (.aaload, 1) := by decide +kernel
theorem dX10_trialThatShows_6 : decode cX10_trialThatShows 6 = .ok (.getfield 281, 3) := by decide +kernel
theorem dX10_trialThatShows_9 : decode cX10_trialThatShows 9 = .ok (.iload_n 2, 1) := by decide +kernel
theorem dX10_trialThatShows_10 : decode cX10_trialThatShows 10 = .ok (.iaload, 1) := by decide +kernel
theorem dX10_trialThatShows_11 : decode cX10_trialThatShows 11 = .ok (.ifCond .ne 12, 3) := by decide +kernel
theorem dX10_trialThatShows_14 : decode cX10_trialThatShows 14 = .ok (.aload_n 0, 1) := by decide +kernel
theorem dX10_trialThatShows_15 : decode cX10_trialThatShows 15 = .ok (.iload_n 1, 1) := by decide +kernel
theorem dX10_trialThatShows_16 : decode cX10_trialThatShows 16 = .ok (.iload_n 2, 1) := by decide +kernel
theorem dX10_trialThatShows_17 : decode cX10_trialThatShows 17 = .ok (.invokevirtual 334, 3) := by decide +kernel
theorem dX10_trialThatShows_20 : decode cX10_trialThatShows 20 = .ok (.ifCond .eq 5, 3) := by decide +kernel
theorem dX10_trialThatShows_23 : decode cX10_trialThatShows 23 = .ok (.iconst (-1), 1) := by decide +kernel
theorem dX10_trialThatShows_24 : decode cX10_trialThatShows 24 = .ok (.ireturn, 1) := by decide +kernel
theorem dX10_trialThatShows_25 : decode cX10_trialThatShows 25 = .ok (.aload_n 0, 1) := by decide +kernel
theorem dX10_trialThatShows_26 : decode cX10_trialThatShows 26 = .ok (.getfield 25, 3) := by decide +kernel
theorem dX10_trialThatShows_29 : decode cX10_trialThatShows 29 = .ok (.iload_n 2, 1) := by decide +kernel
theorem dX10_trialThatShows_30 : decode cX10_trialThatShows 30 = .ok (.aaload, 1) := by decide +kernel
theorem dX10_trialThatShows_31 : decode cX10_trialThatShows 31 = .ok (.iload_n 1, 1) := by decide +kernel
theorem dX10_trialThatShows_32 : decode cX10_trialThatShows 32 = .ok (.aload_n 0, 1) := by decide +kernel
theorem dX10_trialThatShows_33 : decode cX10_trialThatShows 33 = .ok (.getfield 19, 3) := by decide +kernel
theorem dX10_trialThatShows_36 : decode cX10_trialThatShows 36 = .ok (.getfield 153, 3) := by decide +kernel
theorem dX10_trialThatShows_39 : decode cX10_trialThatShows 39 = .ok (.invokevirtual 234, 3) := by decide +kernel
theorem dX10_trialThatShows_42 : decode cX10_trialThatShows 42 = .ok (.istore_n 3, 1) := by decide +kernel
theorem dX10_trialThatShows_43 : decode cX10_trialThatShows 43 = .ok (.iload_n 3, 1) := by decide +kernel
theorem dX10_trialThatShows_44 : decode cX10_trialThatShows 44 = .ok (.iconst (-1), 1) := by decide +kernel
theorem dX10_trialThatShows_45 : decode cX10_trialThatShows 45 = .ok (.if_icmp .ne 7, 3) := by decide +kernel
theorem dX10_trialThatShows_48 : decode cX10_trialThatShows 48 = .ok (.iconst (-1), 1) := by decide +kernel
theorem dX10_trialThatShows_49 : decode cX10_trialThatShows 49 = .ok (.goto 13, 3) := by decide +kernel
theorem dX10_trialThatShows_52 : decode cX10_trialThatShows 52 = .ok (.aload_n 0, 1) := by decide +kernel
theorem dX10_trialThatShows_53 : decode cX10_trialThatShows 53 = .ok (.getfield 25, 3) := by decide +kernel
theorem dX10_trialThatShows_56 : decode cX10_trialThatShows 56 = .ok (.iload_n 2, 1) := by decide +kernel
theorem dX10_trialThatShows_57 : decode cX10_trialThatShows 57 = .ok (.aaload, 1) := by decide +kernel
theorem dX10_trialThatShows_58 : decode cX10_trialThatShows 58 = .ok (.iload_n 3, 1) := by decide +kernel
theorem dX10_trialThatShows_59 : decode cX10_trialThatShows 59 = .ok (.invokevirtual 331, 3) := by decide +kernel
theorem dX10_trialThatShows_62 : decode cX10_trialThatShows 62 = .ok (.ireturn, 1) := by decide +kernel
theorem dX10_needsZero_0 : decode cX10_needsZero 0 = .ok (.aload_n 0, 1) := by decide +kernel
theorem dX10_needsZero_1 : decode cX10_needsZero 1 = .ok (.aload_n 0, 1) := by decide +kernel
theorem dX10_needsZero_2 : decode cX10_needsZero 2 = .ok (.getfield 62, 3) := by decide +kernel
theorem dX10_needsZero_5 : decode cX10_needsZero 5 = .ok (.iload_n 1, 1) := by decide +kernel
theorem dX10_needsZero_6 : decode cX10_needsZero 6 = .ok (.aload_n 0, 1) := by decide +kernel
theorem dX10_needsZero_7 : decode cX10_needsZero 7 = .ok (.getfield 19, 3) := by decide +kernel
theorem dX10_needsZero_10 : decode cX10_needsZero 10 = .ok (.getfield 153, 3) := by decide +kernel
theorem dX10_needsZero_13 : decode cX10_needsZero 13 = .ok (.aload_n 0, 1) := by decide +kernel
theorem dX10_needsZero_14 : decode cX10_needsZero 14 = .ok (.getfield 53, 3) := by decide +kernel
theorem dX10_needsZero_17 : decode cX10_needsZero 17 = .ok (.iload_n 1, 1) := by decide +kernel
theorem dX10_needsZero_18 : decode cX10_needsZero 18 = .ok (.aaload, 1) := by decide +kernel
theorem dX10_needsZero_19 : decode cX10_needsZero 19 = .ok (.invokevirtual 167, 3) := by decide +kernel
theorem dX10_needsZero_22 : decode cX10_needsZero 22 = .ok (.iconst 0, 1) := by decide +kernel
theorem dX10_needsZero_23 : decode cX10_needsZero 23 = .ok (.istore_n 3, 1) := by decide +kernel
theorem dX10_needsZero_24 : decode cX10_needsZero 24 = .ok (.iload_n 3, 1) := by decide +kernel
theorem dX10_needsZero_25 : decode cX10_needsZero 25 = .ok (.bipush 8, 2) := by decide +kernel
theorem dX10_needsZero_27 : decode cX10_needsZero 27 = .ok (.if_icmp .ge 36, 3) := by decide +kernel
theorem dX10_needsZero_30 : decode cX10_needsZero 30 = .ok (.aload_n 0, 1) := by decide +kernel
theorem dX10_needsZero_31 : decode cX10_needsZero 31 = .ok (.getfield 34, 3) := by decide +kernel
theorem dX10_needsZero_34 : decode cX10_needsZero 34 = .ok (.getfield 198, 3) := by decide +kernel
theorem dX10_needsZero_37 : decode cX10_needsZero 37 = .ok (.iload_n 2, 1) := by decide +kernel
theorem dX10_needsZero_38 : decode cX10_needsZero 38 = .ok (.iaload, 1) := by decide +kernel
theorem dX10_needsZero_39 : decode cX10_needsZero 39 = .ok (.iload_n 3, 1) := by decide +kernel
theorem dX10_needsZero_40 : decode cX10_needsZero 40 = .ok (.invokestatic 93, 3) := by decide +kernel
theorem dX10_needsZero_43 : decode cX10_needsZero 43 = .ok (.ifCond .eq 14, 3) := by decide +kernel
theorem dX10_needsZero_46 : decode cX10_needsZero 46 = .ok (.aload_n 0, 1) := by decide +kernel
theorem dX10_needsZero_47 : decode cX10_needsZero 47 = .ok (.getfield 62, 3) := by decide +kernel
theorem dX10_needsZero_50 : decode cX10_needsZero 50 = .ok (.iload_n 3, 1) := by decide +kernel
theorem dX10_needsZero_51 : decode cX10_needsZero 51 = .ok (.iaload, 1) := by decide +kernel
theorem dX10_needsZero_52 : decode cX10_needsZero 52 = .ok (.ifCond .ne 5, 3) := by decide +kernel
theorem dX10_needsZero_55 : decode cX10_needsZero 55 = .ok (.iconst 1, 1) := by decide +kernel
theorem dX10_needsZero_56 : decode cX10_needsZero 56 = .ok (.ireturn, 1) := by decide +kernel
theorem dX10_needsZero_57 : decode cX10_needsZero 57 = .ok (.iinc 3 1, 3) := by decide +kernel
theorem dX10_needsZero_60 : decode cX10_needsZero 60 = .ok (.goto (-36), 3) := by decide +kernel
theorem dX10_needsZero_63 : decode cX10_needsZero 63 = .ok (.iconst 0, 1) := by decide +kernel
theorem dX10_needsZero_64 : decode cX10_needsZero 64 = .ok (.ireturn, 1) := by decide +kernel
theorem dX10_keeps_0 : decode cX10_keeps 0 = .ok (.iload_n 1, 1) := by decide +kernel
theorem dX10_keeps_1 : decode cX10_keeps 1 = .ok (.iconst (-1), 1) := by decide +kernel
theorem dX10_keeps_2 : decode cX10_keeps 2 = .ok (.if_icmp .eq 35, 3) := by decide +kernel
theorem dX10_keeps_5 : decode cX10_keeps 5 = .ok (.aload_n 0, 1) := by decide +kernel
theorem dX10_keeps_6 : decode cX10_keeps 6 = .ok (.getfield 40, 3) := by decide +kernel
theorem dX10_keeps_9 : decode cX10_keeps 9 = .ok (.iload_n 1, 1) := by decide +kernel
theorem dX10_keeps_10 : decode cX10_keeps 10 = .ok (.aaload, 1) := by decide +kernel
theorem dX10_keeps_11 : decode cX10_keeps 11 = .ok (.getfield 275, 3) := by decide +kernel
theorem dX10_keeps_14 : decode cX10_keeps 14 = .ok (.iconst (-1), 1) := by decide +kernel
theorem dX10_keeps_15 : decode cX10_keeps 15 = .ok (.if_icmp .ne 22, 3) := by decide +kernel
theorem dX10_keeps_18 : decode cX10_keeps 18 = .ok (.aload_n 0, 1) := by decide +kernel
theorem dX10_keeps_19 : decode cX10_keeps 19 = .ok (.getfield 53, 3) := by decide +kernel
theorem dX10_keeps_22 : decode cX10_keeps 22 = .ok (.iload_n 2, 1) := by decide +kernel
theorem dX10_keeps_23 : decode cX10_keeps 23 = .ok (.aaload, 1) := by decide +kernel
theorem dX10_keeps_24 : decode cX10_keeps 24 = .ok (.getfield 278, 3) := by decide +kernel
theorem dX10_keeps_27 : decode cX10_keeps 27 = .ok (.iload_n 1, 1) := by decide +kernel
theorem dX10_keeps_28 : decode cX10_keeps 28 = .ok (.iaload, 1) := by decide +kernel
theorem dX10_keeps_29 : decode cX10_keeps 29 = .ok (.iconst (-1), 1) := by decide +kernel
theorem dX10_keeps_30 : decode cX10_keeps 30 = .ok (.if_icmp .ne 7, 3) := by decide +kernel
theorem dX10_keeps_33 : decode cX10_keeps 33 = .ok (.iconst 1, 1) := by decide +kernel
theorem dX10_keeps_34 : decode cX10_keeps 34 = .ok (.goto 4, 3) := by decide +kernel
theorem dX10_keeps_37 : decode cX10_keeps 37 = .ok (.iconst 0, 1) := by decide +kernel
theorem dX10_keeps_38 : decode cX10_keeps 38 = .ok (.ireturn, 1) := by decide +kernel
