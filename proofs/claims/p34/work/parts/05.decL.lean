theorem dL_cell_0 : decode cL_cell 0 = .ok (.iload_n 1, 1) := by decide +kernel
theorem dL_cell_1 : decode cL_cell 1 = .ok (.aload_n 0, 1) := by decide +kernel
theorem dL_cell_2 : decode cL_cell 2 = .ok (.arraylength, 1) := by decide +kernel
theorem dL_cell_3 : decode cL_cell 3 = .ok (.if_icmp .ge 9, 3) := by decide +kernel
theorem dL_cell_6 : decode cL_cell 6 = .ok (.aload_n 0, 1) := by decide +kernel
theorem dL_cell_7 : decode cL_cell 7 = .ok (.iload_n 1, 1) := by decide +kernel
theorem dL_cell_8 : decode cL_cell 8 = .ok (.iaload, 1) := by decide +kernel
theorem dL_cell_9 : decode cL_cell 9 = .ok (.goto 18, 3) := by decide +kernel
theorem dL_cell_12 : decode cL_cell 12 = .ok (.sipush 7919, 3) := by decide +kernel
theorem dL_cell_15 : decode cL_cell 15 = .ok (.iload_n 1, 1) := by decide +kernel
theorem dL_cell_16 : decode cL_cell 16 = .ok (.sipush 1483, 3) := by decide +kernel
theorem dL_cell_19 : decode cL_cell 19 = .ok (.iadd, 1) := by decide +kernel
theorem dL_cell_20 : decode cL_cell 20 = .ok (.imul, 1) := by decide +kernel
theorem dL_cell_21 : decode cL_cell 21 = .ok (.iload_n 1, 1) := by decide +kernel
theorem dL_cell_22 : decode cL_cell 22 = .ok (.sipush 421, 3) := by decide +kernel
theorem dL_cell_25 : decode cL_cell 25 = .ok (.iadd, 1) := by decide +kernel
theorem dL_cell_26 : decode cL_cell 26 = .ok (.imul, 1) := by decide +kernel
theorem dL_cell_27 : decode cL_cell 27 = .ok (.ireturn, 1) := by decide +kernel
theorem dL_low_0 : decode cL_low 0 = .ok (.iload_n 0, 1) := by decide +kernel
theorem dL_low_1 : decode cL_low 1 = .ok (.ldc 7, 2) := by decide +kernel
theorem dL_low_3 : decode cL_low 3 = .ok (.iand, 1) := by decide +kernel
theorem dL_low_4 : decode cL_low 4 = .ok (.iload_n 1, 1) := by decide +kernel
theorem dL_low_5 : decode cL_low 5 = .ok (.irem, 1) := by decide +kernel
theorem dL_low_6 : decode cL_low 6 = .ok (.ireturn, 1) := by decide +kernel
theorem dL_setAttribute_0 : decode cL_setAttribute 0 = .ok (.aload_n 0, 1) := by decide +kernel
theorem dL_setAttribute_1 : decode cL_setAttribute 1 = .ok (.iload_n 1, 1) := by decide +kernel
theorem dL_setAttribute_2 : decode cL_setAttribute 2 = .ok (.iload_n 2, 1) := by decide +kernel
theorem dL_setAttribute_3 : decode cL_setAttribute 3 = .ok (.iload_n 3, 1) := by decide +kernel
theorem dL_setAttribute_4 : decode cL_setAttribute 4 = .ok (.invokevirtual 8, 3) := by decide +kernel
theorem dL_setAttribute_7 : decode cL_setAttribute 7 = .ok (.ireturn, 1) := by decide +kernel
theorem dL_setAttribute_8 : decode cL_setAttribute 8 = .ok (.astore 4, 2) := by decide +kernel
theorem dL_setAttribute_10 : decode cL_setAttribute 10 = .ok (.ldc 16, 2) := by decide +kernel
theorem dL_setAttribute_12 : decode cL_setAttribute 12 = .ok (.ireturn, 1) := by decide +kernel
theorem dL_setTag_0 : decode cL_setTag 0 = .ok (.aload_n 0, 1) := by decide +kernel
theorem dL_setTag_1 : decode cL_setTag 1 = .ok (.iload_n 1, 1) := by decide +kernel
theorem dL_setTag_2 : decode cL_setTag 2 = .ok (.iload_n 2, 1) := by decide +kernel
theorem dL_setTag_3 : decode cL_setTag 3 = .ok (.iload_n 3, 1) := by decide +kernel
theorem dL_setTag_4 : decode cL_setTag 4 = .ok (.invokevirtual 17, 3) := by decide +kernel
theorem dL_setTag_7 : decode cL_setTag 7 = .ok (.ifCond .eq 7, 3) := by decide +kernel
theorem dL_setTag_10 : decode cL_setTag 10 = .ok (.iconst 1, 1) := by decide +kernel
theorem dL_setTag_11 : decode cL_setTag 11 = .ok (.goto 4, 3) := by decide +kernel
theorem dL_setTag_14 : decode cL_setTag 14 = .ok (.iconst 0, 1) := by decide +kernel
theorem dL_setTag_15 : decode cL_setTag 15 = .ok (.ireturn, 1) := by decide +kernel
theorem dL_setTag_16 : decode cL_setTag 16 = .ok (.astore 4, 2) := by decide +kernel
theorem dL_setTag_18 : decode cL_setTag 18 = .ok (.ldc 16, 2) := by decide +kernel
theorem dL_setTag_20 : decode cL_setTag 20 = .ok (.ireturn, 1) := by decide +kernel
theorem dL_type_0 : decode cL_type 0 = .ok (.aload_n 0, 1) := by decide +kernel
theorem dL_type_1 : decode cL_type 1 = .ok (.iload_n 1, 1) := by decide +kernel
theorem dL_type_2 : decode cL_type 2 = .ok (.iload_n 2, 1) := by decide +kernel
theorem dL_type_3 : decode cL_type 3 = .ok (.invokevirtual 21, 3) := by decide +kernel
theorem dL_type_6 : decode cL_type 6 = .ok (.ireturn, 1) := by decide +kernel
theorem dL_type_7 : decode cL_type 7 = .ok (.astore_n 3, 1) := by decide +kernel
theorem dL_type_8 : decode cL_type 8 = .ok (.ldc 16, 2) := by decide +kernel
theorem dL_type_10 : decode cL_type 10 = .ok (.ireturn, 1) := by decide +kernel
theorem dL_type_11 : decode cL_type 11 = .ok (.astore_n 3, 1) := by decide +kernel
theorem dL_type_12 : decode cL_type 12 = .ok (.ldc 16, 2) := by decide +kernel
theorem dL_type_14 : decode cL_type 14 = .ok (.ireturn, 1) := by decide +kernel
theorem dL_erase_0 : decode cL_erase 0 = .ok (.aload_n 0, 1) := by decide +kernel
theorem dL_erase_1 : decode cL_erase 1 = .ok (.iload_n 1, 1) := by decide +kernel
theorem dL_erase_2 : decode cL_erase 2 = .ok (.iload_n 2, 1) := by decide +kernel
theorem dL_erase_3 : decode cL_erase 3 = .ok (.invokevirtual 27, 3) := by decide +kernel
theorem dL_erase_6 : decode cL_erase 6 = .ok (.ireturn, 1) := by decide +kernel
theorem dL_erase_7 : decode cL_erase 7 = .ok (.astore_n 3, 1) := by decide +kernel
theorem dL_erase_8 : decode cL_erase 8 = .ok (.ldc 16, 2) := by decide +kernel
theorem dL_erase_10 : decode cL_erase 10 = .ok (.ireturn, 1) := by decide +kernel
theorem dL_set_0 : decode cL_set 0 = .ok (.aload_n 0, 1) := by decide +kernel
theorem dL_set_1 : decode cL_set 1 = .ok (.iload_n 1, 1) := by decide +kernel
theorem dL_set_2 : decode cL_set 2 = .ok (.invokevirtual 30, 3) := by decide +kernel
theorem dL_set_5 : decode cL_set 5 = .ok (.ireturn, 1) := by decide +kernel
theorem dL_set_6 : decode cL_set 6 = .ok (.astore_n 2, 1) := by decide +kernel
theorem dL_set_7 : decode cL_set 7 = .ok (.ldc 16, 2) := by decide +kernel
theorem dL_set_9 : decode cL_set 9 = .ok (.ireturn, 1) := by decide +kernel
theorem dL_set_10 : decode cL_set 10 = .ok (.astore_n 2, 1) := by decide +kernel
theorem dL_set_11 : decode cL_set 11 = .ok (.ldc 16, 2) := by decide +kernel
theorem dL_set_13 : decode cL_set 13 = .ok (.ireturn, 1) := by decide +kernel
theorem dL_wouldMove_0 : decode cL_wouldMove 0 = .ok (.aload_n 0, 1) := by decide +kernel
theorem dL_wouldMove_1 : decode cL_wouldMove 1 = .ok (.iload_n 1, 1) := by decide +kernel
theorem dL_wouldMove_2 : decode cL_wouldMove 2 = .ok (.invokevirtual 34, 3) := by decide +kernel
theorem dL_wouldMove_5 : decode cL_wouldMove 5 = .ok (.ireturn, 1) := by decide +kernel
theorem dL_wouldMove_6 : decode cL_wouldMove 6 = .ok (.astore_n 2, 1) := by decide +kernel
theorem dL_wouldMove_7 : decode cL_wouldMove 7 = .ok (.ldc 16, 2) := by decide +kernel
theorem dL_wouldMove_9 : decode cL_wouldMove 9 = .ok (.ireturn, 1) := by decide +kernel
theorem dL_wouldMove_10 : decode cL_wouldMove 10 = .ok (.astore_n 2, 1) := by decide +kernel
theorem dL_wouldMove_11 : decode cL_wouldMove 11 = .ok (.ldc 16, 2) := by decide +kernel
theorem dL_wouldMove_13 : decode cL_wouldMove 13 = .ok (.ireturn, 1) := by decide +kernel
theorem dL_addRule_0 : decode cL_addRule 0 = .ok (.aload_n 0, 1) := by decide +kernel
theorem dL_addRule_1 : decode cL_addRule 1 = .ok (.iload_n 1, 1) := by decide +kernel
theorem dL_addRule_2 : decode cL_addRule 2 = .ok (.iload_n 2, 1) := by decide +kernel
theorem dL_addRule_3 : decode cL_addRule 3 = .ok (.iload_n 3, 1) := by decide +kernel
theorem dL_addRule_4 : decode cL_addRule 4 = .ok (.iload 4, 2) := by decide +kernel
theorem dL_addRule_6 : decode cL_addRule 6 = .ok (.invokevirtual 37, 3) := by decide +kernel
theorem dL_addRule_9 : decode cL_addRule 9 = .ok (.ireturn, 1) := by decide +kernel
theorem dL_addRule_10 : decode cL_addRule 10 = .ok (.astore 5, 2) := by decide +kernel
theorem dL_addRule_12 : decode cL_addRule 12 = .ok (.ldc 16, 2) := by decide +kernel
theorem dL_addRule_14 : decode cL_addRule 14 = .ok (.ireturn, 1) := by decide +kernel
theorem dL_addRule_15 : decode cL_addRule 15 = .ok (.astore 5, 2) := by decide +kernel
theorem dL_addRule_17 : decode cL_addRule 17 = .ok (.ldc 16, 2) := by decide +kernel
theorem dL_addRule_19 : decode cL_addRule 19 = .ok (.ireturn, 1) := by decide +kernel
theorem dL_addRule_20 : decode cL_addRule 20 = .ok (.astore 5, 2) := by decide +kernel
theorem dL_addRule_22 : decode cL_addRule 22 = .ok (.ldc 16, 2) := by decide +kernel
theorem dL_addRule_24 : decode cL_addRule 24 = .ok (.ireturn, 1) := by decide +kernel
theorem dL_removeRule_0 : decode cL_removeRule 0 = .ok (.aload_n 0, 1) := by decide +kernel
theorem dL_removeRule_1 : decode cL_removeRule 1 = .ok (.iload_n 1, 1) := by decide +kernel
theorem dL_removeRule_2 : decode cL_removeRule 2 = .ok (.iload_n 2, 1) := by decide +kernel
theorem dL_removeRule_3 : decode cL_removeRule 3 = .ok (.invokevirtual 43, 3) := by decide +kernel
theorem dL_removeRule_6 : decode cL_removeRule 6 = .ok (.ireturn, 1) := by decide +kernel
theorem dL_removeRule_7 : decode cL_removeRule 7 = .ok (.astore_n 3, 1) := by decide +kernel
theorem dL_removeRule_8 : decode cL_removeRule 8 = .ok (.ldc 16, 2) := by decide +kernel
theorem dL_removeRule_10 : decode cL_removeRule 10 = .ok (.ireturn, 1) := by decide +kernel
theorem dL_removeRule_11 : decode cL_removeRule 11 = .ok (.astore_n 3, 1) := by decide +kernel
theorem dL_removeRule_12 : decode cL_removeRule 12 = .ok (.ldc 16, 2) := by decide +kernel
theorem dL_removeRule_14 : decode cL_removeRule 14 = .ok (.ireturn, 1) := by decide +kernel
theorem dL_setNeed_0 : decode cL_setNeed 0 = .ok (.aload_n 0, 1) := by decide +kernel
theorem dL_setNeed_1 : decode cL_setNeed 1 = .ok (.iload_n 1, 1) := by decide +kernel
theorem dL_setNeed_2 : decode cL_setNeed 2 = .ok (.iload_n 2, 1) := by decide +kernel
theorem dL_setNeed_3 : decode cL_setNeed 3 = .ok (.iload_n 3, 1) := by decide +kernel
theorem dL_setNeed_4 : decode cL_setNeed 4 = .ok (.invokevirtual 46, 3) := by decide +kernel
theorem dL_setNeed_7 : decode cL_setNeed 7 = .ok (.ifCond .eq 7, 3) := by decide +kernel
theorem dL_setNeed_10 : decode cL_setNeed 10 = .ok (.iconst 1, 1) := by decide +kernel
theorem dL_setNeed_11 : decode cL_setNeed 11 = .ok (.goto 4, 3) := by decide +kernel
theorem dL_setNeed_14 : decode cL_setNeed 14 = .ok (.iconst 0, 1) := by decide +kernel
theorem dL_setNeed_15 : decode cL_setNeed 15 = .ok (.ireturn, 1) := by decide +kernel
theorem dL_setNeed_16 : decode cL_setNeed 16 = .ok (.astore 4, 2) := by decide +kernel
theorem dL_setNeed_18 : decode cL_setNeed 18 = .ok (.ldc 16, 2) := by decide +kernel
theorem dL_setNeed_20 : decode cL_setNeed 20 = .ok (.ireturn, 1) := by decide +kernel
theorem dL_setNeed_21 : decode cL_setNeed 21 = .ok (.astore 4, 2) := by decide +kernel
theorem dL_setNeed_23 : decode cL_setNeed 23 = .ok (.ldc 16, 2) := by decide +kernel
theorem dL_setNeed_25 : decode cL_setNeed 25 = .ok (.ireturn, 1) := by decide +kernel
theorem dL_show_0 : decode cL_show 0 = .ok (.aload_n 0, 1) := by decide +kernel
theorem dL_show_1 : decode cL_show 1 = .ok (.iload_n 1, 1) := by decide +kernel
theorem dL_show_2 : decode cL_show 2 = .ok (.iload_n 2, 1) := by decide +kernel
theorem dL_show_3 : decode cL_show 3 = .ok (.invokevirtual 49, 3) := by decide +kernel
theorem dL_show_6 : decode cL_show 6 = .ok (.ireturn, 1) := by decide +kernel
theorem dL_show_7 : decode cL_show 7 = .ok (.astore_n 3, 1) := by decide +kernel
theorem dL_show_8 : decode cL_show 8 = .ok (.ldc 16, 2) := by decide +kernel
theorem dL_show_10 : decode cL_show 10 = .ok (.ireturn, 1) := by decide +kernel
theorem dL_show_11 : decode cL_show 11 = .ok (.astore_n 3, 1) := by decide +kernel
theorem dL_show_12 : decode cL_show 12 = .ok (.ldc 16, 2) := by decide +kernel
theorem dL_show_14 : decode cL_show 14 = .ok (.ireturn, 1) := by decide +kernel
theorem dL_setShares_0 : decode cL_setShares 0 = .ok (.aload_n 0, 1) := by decide +kernel
theorem dL_setShares_1 : decode cL_setShares 1 = .ok (.iload_n 1, 1) := by decide +kernel
theorem dL_setShares_2 : decode cL_setShares 2 = .ok (.iload_n 2, 1) := by decide +kernel
theorem dL_setShares_3 : decode cL_setShares 3 = .ok (.iload_n 3, 1) := by decide +kernel
theorem dL_setShares_4 : decode cL_setShares 4 = .ok (.iload 4, 2) := by decide +kernel
theorem dL_setShares_6 : decode cL_setShares 6 = .ok (.iload 5, 2) := by decide +kernel
theorem dL_setShares_8 : decode cL_setShares 8 = .ok (.invokevirtual 52, 3) := by decide +kernel
theorem dL_setShares_11 : decode cL_setShares 11 = .ok (.ireturn, 1) := by decide +kernel
theorem dL_setShares_12 : decode cL_setShares 12 = .ok (.astore 6, 2) := by decide +kernel
theorem dL_setShares_14 : decode cL_setShares 14 = .ok (.ldc 16, 2) := by decide +kernel
theorem dL_setShares_16 : decode cL_setShares 16 = .ok (.ireturn, 1) := by decide +kernel
theorem dL_setShares_17 : decode cL_setShares 17 = .ok (.astore 6, 2) := by decide +kernel
theorem dL_setShares_19 : decode cL_setShares 19 = .ok (.ldc 16, 2) := by decide +kernel
theorem dL_setShares_21 : decode cL_setShares 21 = .ok (.ireturn, 1) := by decide +kernel
theorem dL_setSalt_0 : decode cL_setSalt 0 = .ok (.aload_n 0, 1) := by decide +kernel
theorem dL_setSalt_1 : decode cL_setSalt 1 = .ok (.iload_n 1, 1) := by decide +kernel
theorem dL_setSalt_2 : decode cL_setSalt 2 = .ok (.iload_n 2, 1) := by decide +kernel
theorem dL_setSalt_3 : decode cL_setSalt 3 = .ok (.invokevirtual 56, 3) := by decide +kernel
theorem dL_setSalt_6 : decode cL_setSalt 6 = .ok (.ireturn, 1) := by decide +kernel
theorem dL_setSalt_7 : decode cL_setSalt 7 = .ok (.astore_n 3, 1) := by decide +kernel
theorem dL_setSalt_8 : decode cL_setSalt 8 = .ok (.ldc 16, 2) := by decide +kernel
theorem dL_setSalt_10 : decode cL_setSalt 10 = .ok (.ireturn, 1) := by decide +kernel
theorem dL_setSalt_11 : decode cL_setSalt 11 = .ok (.astore_n 3, 1) := by decide +kernel
theorem dL_setSalt_12 : decode cL_setSalt 12 = .ok (.ldc 16, 2) := by decide +kernel
theorem dL_setSalt_14 : decode cL_setSalt 14 = .ok (.ireturn, 1) := by decide +kernel
theorem dL_stop_0 : decode cL_stop 0 = .ok (.aload_n 0, 1) := by decide +kernel
theorem dL_stop_1 : decode cL_stop 1 = .ok (.iload_n 1, 1) := by decide +kernel
theorem dL_stop_2 : decode cL_stop 2 = .ok (.iload_n 2, 1) := by decide +kernel
theorem dL_stop_3 : decode cL_stop 3 = .ok (.invokevirtual 59, 3) := by decide +kernel
theorem dL_stop_6 : decode cL_stop 6 = .ok (.ireturn, 1) := by decide +kernel
theorem dL_stop_7 : decode cL_stop 7 = .ok (.astore_n 3, 1) := by decide +kernel
theorem dL_stop_8 : decode cL_stop 8 = .ok (.ldc 16, 2) := by decide +kernel
theorem dL_stop_10 : decode cL_stop 10 = .ok (.ireturn, 1) := by decide +kernel
theorem dL_stop_11 : decode cL_stop 11 = .ok (.astore_n 3, 1) := by decide +kernel
theorem dL_stop_12 : decode cL_stop 12 = .ok (.ldc 16, 2) := by decide +kernel
theorem dL_stop_14 : decode cL_stop 14 = .ok (.ireturn, 1) := by decide +kernel
theorem dL_beginAnew_0 : decode cL_beginAnew 0 = .ok (.aload_n 0, 1) := by decide +kernel
theorem dL_beginAnew_1 : decode cL_beginAnew 1 = .ok (.iload_n 1, 1) := by decide +kernel
theorem dL_beginAnew_2 : decode cL_beginAnew 2 = .ok (.invokevirtual 62, 3) := by decide +kernel
theorem dL_beginAnew_5 : decode cL_beginAnew 5 = .ok (.ireturn, 1) := by decide +kernel
theorem dL_beginAnew_6 : decode cL_beginAnew 6 = .ok (.astore_n 2, 1) := by decide +kernel
theorem dL_beginAnew_7 : decode cL_beginAnew 7 = .ok (.ldc 16, 2) := by decide +kernel
theorem dL_beginAnew_9 : decode cL_beginAnew 9 = .ok (.ireturn, 1) := by decide +kernel
theorem dL_beginAnew_10 : decode cL_beginAnew 10 = .ok (.astore_n 2, 1) := by decide +kernel
theorem dL_beginAnew_11 : decode cL_beginAnew 11 = .ok (.ldc 16, 2) := by decide +kernel
theorem dL_beginAnew_13 : decode cL_beginAnew 13 = .ok (.ireturn, 1) := by decide +kernel
theorem dL_hold_0 : decode cL_hold 0 = .ok (.aload_n 0, 1) := by decide +kernel
theorem dL_hold_1 : decode cL_hold 1 = .ok (.iload_n 1, 1) := by decide +kernel
theorem dL_hold_2 : decode cL_hold 2 = .ok (.iload_n 2, 1) := by decide +kernel
theorem dL_hold_3 : decode cL_hold 3 = .ok (.invokevirtual 65, 3) := by decide +kernel
theorem dL_hold_6 : decode cL_hold 6 = .ok (.ireturn, 1) := by decide +kernel
theorem dL_hold_7 : decode cL_hold 7 = .ok (.astore_n 3, 1) := by decide +kernel
theorem dL_hold_8 : decode cL_hold 8 = .ok (.ldc 16, 2) := by decide +kernel
theorem dL_hold_10 : decode cL_hold 10 = .ok (.ireturn, 1) := by decide +kernel
theorem dL_hold_11 : decode cL_hold 11 = .ok (.astore_n 3, 1) := by decide +kernel
theorem dL_hold_12 : decode cL_hold 12 = .ok (.ldc 16, 2) := by decide +kernel
theorem dL_hold_14 : decode cL_hold 14 = .ok (.ireturn, 1) := by decide +kernel
theorem dL_release_0 : decode cL_release 0 = .ok (.aload_n 0, 1) := by decide +kernel
theorem dL_release_1 : decode cL_release 1 = .ok (.iload_n 1, 1) := by decide +kernel
theorem dL_release_2 : decode cL_release 2 = .ok (.iload_n 2, 1) := by decide +kernel
theorem dL_release_3 : decode cL_release 3 = .ok (.invokevirtual 68, 3) := by decide +kernel
theorem dL_release_6 : decode cL_release 6 = .ok (.ireturn, 1) := by decide +kernel
theorem dL_release_7 : decode cL_release 7 = .ok (.astore_n 3, 1) := by decide +kernel
theorem dL_release_8 : decode cL_release 8 = .ok (.ldc 16, 2) := by decide +kernel
theorem dL_release_10 : decode cL_release 10 = .ok (.ireturn, 1) := by decide +kernel
theorem dL_release_11 : decode cL_release 11 = .ok (.astore_n 3, 1) := by decide +kernel
theorem dL_release_12 : decode cL_release 12 = .ok (.ldc 16, 2) := by decide +kernel
theorem dL_release_14 : decode cL_release 14 = .ok (.ireturn, 1) := by decide +kernel
theorem dL_holdTrial_0 : decode cL_holdTrial 0 = .ok (.aload_n 0, 1) := by decide +kernel
theorem dL_holdTrial_1 : decode cL_holdTrial 1 = .ok (.iload_n 1, 1) := by decide +kernel
theorem dL_holdTrial_2 : decode cL_holdTrial 2 = .ok (.invokevirtual 71, 3) := by decide +kernel
theorem dL_holdTrial_5 : decode cL_holdTrial 5 = .ok (.ireturn, 1) := by decide +kernel
theorem dL_holdTrial_6 : decode cL_holdTrial 6 = .ok (.astore_n 2, 1) := by decide +kernel
theorem dL_holdTrial_7 : decode cL_holdTrial 7 = .ok (.ldc 16, 2) := by decide +kernel
theorem dL_holdTrial_9 : decode cL_holdTrial 9 = .ok (.ireturn, 1) := by decide +kernel
theorem dL_holdTrial_10 : decode cL_holdTrial 10 = .ok (.astore_n 2, 1) := by decide +kernel
theorem dL_holdTrial_11 : decode cL_holdTrial 11 = .ok (.ldc 16, 2) := by decide +kernel
theorem dL_holdTrial_13 : decode cL_holdTrial 13 = .ok (.ireturn, 1) := by decide +kernel
theorem dL_releaseTrial_0 : decode cL_releaseTrial 0 = .ok (.aload_n 0, 1) := by decide +kernel
theorem dL_releaseTrial_1 : decode cL_releaseTrial 1 = .ok (.iload_n 1, 1) := by decide +kernel
theorem dL_releaseTrial_2 : decode cL_releaseTrial 2 = .ok (.invokevirtual 74, 3) := by decide +kernel
theorem dL_releaseTrial_5 : decode cL_releaseTrial 5 = .ok (.ireturn, 1) := by decide +kernel
theorem dL_releaseTrial_6 : decode cL_releaseTrial 6 = .ok (.astore_n 2, 1) := by decide +kernel
theorem dL_releaseTrial_7 : decode cL_releaseTrial 7 = .ok (.ldc 16, 2) := by decide +kernel
theorem dL_releaseTrial_9 : decode cL_releaseTrial 9 = .ok (.ireturn, 1) := by decide +kernel
theorem dL_releaseTrial_10 : decode cL_releaseTrial 10 = .ok (.astore_n 2, 1) := by decide +kernel
theorem dL_releaseTrial_11 : decode cL_releaseTrial 11 = .ok (.ldc 16, 2) := by decide +kernel
theorem dL_releaseTrial_13 : decode cL_releaseTrial 13 = .ok (.ireturn, 1) := by decide +kernel
theorem dL_typeTest_0 : decode cL_typeTest 0 = .ok (.aload_n 0, 1) := by decide +kernel
theorem dL_typeTest_1 : decode cL_typeTest 1 = .ok (.iload_n 1, 1) := by decide +kernel
theorem dL_typeTest_2 : decode cL_typeTest 2 = .ok (.iconst 1, 1) := by decide +kernel
theorem dL_typeTest_3 : decode cL_typeTest 3 = .ok (.invokevirtual 27, 3) := by decide +kernel
theorem dL_typeTest_6 : decode cL_typeTest 6 = .ok (.istore_n 3, 1) := by decide +kernel
theorem dL_typeTest_7 : decode cL_typeTest 7 = .ok (.iload_n 3, 1) := by decide +kernel
theorem dL_typeTest_8 : decode cL_typeTest 8 = .ok (.bipush 40, 2) := by decide +kernel
theorem dL_typeTest_10 : decode cL_typeTest 10 = .ok (.if_icmp .le 5, 3) := by decide +kernel
theorem dL_typeTest_13 : decode cL_typeTest 13 = .ok (.iload_n 3, 1) := by decide +kernel
theorem dL_typeTest_14 : decode cL_typeTest 14 = .ok (.ireturn, 1) := by decide +kernel
theorem dL_typeTest_15 : decode cL_typeTest 15 = .ok (.iload_n 3, 1) := by decide +kernel
theorem dL_typeTest_16 : decode cL_typeTest 16 = .ok (.ifCond .le 35, 3) := by decide +kernel
theorem dL_typeTest_19 : decode cL_typeTest 19 = .ok (.aload_n 0, 1) := by decide +kernel
theorem dL_typeTest_20 : decode cL_typeTest 20 = .ok (.iload_n 1, 1) := by decide +kernel
theorem dL_typeTest_21 : decode cL_typeTest 21 = .ok (.invokevirtual 77, 3) := by decide +kernel
theorem dL_typeTest_24 : decode cL_typeTest 24 = .ok (.iconst (-1), 1) := by decide +kernel
theorem dL_typeTest_25 : decode cL_typeTest 25 = .ok (.if_icmp .ne 26, 3) := by decide +kernel
theorem dL_typeTest_28 : decode cL_typeTest 28 = .ok (.aload_n 0, 1) := by decide +kernel
theorem dL_typeTest_29 : decode cL_typeTest 29 = .ok (.iload_n 1, 1) := by decide +kernel
theorem dL_typeTest_30 : decode cL_typeTest 30 = .ok (.iload_n 2, 1) := by decide +kernel
theorem dL_typeTest_31 : decode cL_typeTest 31 = .ok (.iconst 2, 1) := by decide +kernel
theorem dL_typeTest_32 : decode cL_typeTest 32 = .ok (.invokestatic 80, 3) := by decide +kernel
theorem dL_typeTest_35 : decode cL_typeTest 35 = .ok (.ifCond .ne 8, 3) := by decide +kernel
theorem dL_typeTest_38 : decode cL_typeTest 38 = .ok (.bipush 124, 2) := by decide +kernel
theorem dL_typeTest_40 : decode cL_typeTest 40 = .ok (.goto 5, 3) := by decide +kernel
theorem dL_typeTest_43 : decode cL_typeTest 43 = .ok (.bipush 38, 2) := by decide +kernel
theorem dL_typeTest_45 : decode cL_typeTest 45 = .ok (.invokevirtual 21, 3) := by decide +kernel
theorem dL_typeTest_48 : decode cL_typeTest 48 = .ok (.goto 10, 3) := by decide +kernel
theorem dL_typeTest_51 : decode cL_typeTest 51 = .ok (.aload_n 0, 1) := by decide +kernel
theorem dL_typeTest_52 : decode cL_typeTest 52 = .ok (.iload_n 1, 1) := by decide +kernel
theorem dL_typeTest_53 : decode cL_typeTest 53 = .ok (.bipush 60, 2) := by decide +kernel
theorem dL_typeTest_55 : decode cL_typeTest 55 = .ok (.invokevirtual 27, 3) := by decide +kernel
theorem dL_typeTest_58 : decode cL_typeTest 58 = .ok (.istore_n 3, 1) := by decide +kernel
theorem dL_typeTest_59 : decode cL_typeTest 59 = .ok (.iload_n 2, 1) := by decide +kernel
theorem dL_typeTest_60 : decode cL_typeTest 60 = .ok (.iconst 1, 1) := by decide +kernel
theorem dL_typeTest_61 : decode cL_typeTest 61 = .ok (.ishr, 1) := by decide +kernel
theorem dL_typeTest_62 : decode cL_typeTest 62 = .ok (.bipush 6, 2) := by decide +kernel
theorem dL_typeTest_64 : decode cL_typeTest 64 = .ok (.invokestatic 80, 3) := by decide +kernel
theorem dL_typeTest_67 : decode cL_typeTest 67 = .ok (.istore 4, 2) := by decide +kernel
theorem dL_typeTest_69 : decode cL_typeTest 69 = .ok (.iload_n 2, 1) := by decide +kernel
theorem dL_typeTest_70 : decode cL_typeTest 70 = .ok (.iconst 4, 1) := by decide +kernel
theorem dL_typeTest_71 : decode cL_typeTest 71 = .ok (.ishr, 1) := by decide +kernel
theorem dL_typeTest_72 : decode cL_typeTest 72 = .ok (.iconst 4, 1) := by decide +kernel
theorem dL_typeTest_73 : decode cL_typeTest 73 = .ok (.invokestatic 80, 3) := by decide +kernel
theorem dL_typeTest_76 : decode cL_typeTest 76 = .ok (.ifCond .ne 13, 3) := by decide +kernel
theorem dL_typeTest_79 : decode cL_typeTest 79 = .ok (.aload_n 0, 1) := by decide +kernel
theorem dL_typeTest_80 : decode cL_typeTest 80 = .ok (.iload_n 1, 1) := by decide +kernel
theorem dL_typeTest_81 : decode cL_typeTest 81 = .ok (.bipush 33, 2) := by decide +kernel
theorem dL_typeTest_83 : decode cL_typeTest 83 = .ok (.invokevirtual 21, 3) := by decide +kernel
theorem dL_typeTest_86 : decode cL_typeTest 86 = .ok (.goto 4, 3) := by decide +kernel
theorem dL_typeTest_89 : decode cL_typeTest 89 = .ok (.iload_n 3, 1) := by decide +kernel
theorem dL_typeTest_90 : decode cL_typeTest 90 = .ok (.istore_n 3, 1) := by decide +kernel
theorem dL_typeTest_91 : decode cL_typeTest 91 = .ok (.iload 4, 2) := by decide +kernel
theorem dL_typeTest_93 : decode cL_typeTest 93 = .ok (.iconst 3, 1) := by decide +kernel
theorem dL_typeTest_94 : decode cL_typeTest 94 = .ok (.if_icmp .ge 66, 3) := by decide +kernel
theorem dL_typeTest_97 : decode cL_typeTest 97 = .ok (.aload_n 0, 1) := by decide +kernel
theorem dL_typeTest_98 : decode cL_typeTest 98 = .ok (.iload_n 1, 1) := by decide +kernel
theorem dL_typeTest_99 : decode cL_typeTest 99 = .ok (.iload 4, 2) := by decide +kernel
theorem dL_typeTest_101 : decode cL_typeTest 101 = .ok (.ifCond .ne 8, 3) := by decide +kernel
theorem dL_typeTest_104 : decode cL_typeTest 104 = .ok (.bipush 108, 2) := by decide +kernel
theorem dL_typeTest_106 : decode cL_typeTest 106 = .ok (.goto 16, 3) := by decide +kernel
theorem dL_typeTest_109 : decode cL_typeTest 109 = .ok (.iload 4, 2) := by decide +kernel
theorem dL_typeTest_111 : decode cL_typeTest 111 = .ok (.iconst 1, 1) := by decide +kernel
theorem dL_typeTest_112 : decode cL_typeTest 112 = .ok (.if_icmp .ne 8, 3) := by decide +kernel
theorem dL_typeTest_115 : decode cL_typeTest 115 = .ok (.bipush 97, 2) := by decide +kernel
theorem dL_typeTest_117 : decode cL_typeTest 117 = .ok (.goto 5, 3) := by decide +kernel
theorem dL_typeTest_120 : decode cL_typeTest 120 = .ok (.bipush 112, 2) := by decide +kernel
theorem dL_typeTest_122 : decode cL_typeTest 122 = .ok (.invokevirtual 21, 3) := by decide +kernel
theorem dL_typeTest_125 : decode cL_typeTest 125 = .ok (.istore_n 3, 1) := by decide +kernel
theorem dL_typeTest_126 : decode cL_typeTest 126 = .ok (.aload_n 0, 1) := by decide +kernel
theorem dL_typeTest_127 : decode cL_typeTest 127 = .ok (.iload_n 1, 1) := by decide +kernel
theorem dL_typeTest_128 : decode cL_typeTest 128 = .ok (.bipush 60, 2) := by decide +kernel
theorem dL_typeTest_130 : decode cL_typeTest 130 = .ok (.iload_n 2, 1) := by decide +kernel
theorem dL_typeTest_131 : decode cL_typeTest 131 = .ok (.bipush 6, 2) := by decide +kernel
theorem dL_typeTest_133 : decode cL_typeTest 133 = .ok (.ishr, 1) := by decide +kernel
theorem dL_typeTest_134 : decode cL_typeTest 134 = .ok (.iconst 3, 1) := by decide +kernel
theorem dL_typeTest_135 : decode cL_typeTest 135 = .ok (.invokestatic 80, 3) := by decide +kernel
theorem dL_typeTest_138 : decode cL_typeTest 138 = .ok (.iadd, 1) := by decide +kernel
theorem dL_typeTest_139 : decode cL_typeTest 139 = .ok (.invokevirtual 21, 3) := by decide +kernel
theorem dL_typeTest_142 : decode cL_typeTest 142 = .ok (.istore_n 3, 1) := by decide +kernel
theorem dL_typeTest_143 : decode cL_typeTest 143 = .ok (.aload_n 0, 1) := by decide +kernel
theorem dL_typeTest_144 : decode cL_typeTest 144 = .ok (.iload_n 1, 1) := by decide +kernel
theorem dL_typeTest_145 : decode cL_typeTest 145 = .ok (.bipush 48, 2) := by decide +kernel
theorem dL_typeTest_147 : decode cL_typeTest 147 = .ok (.iload_n 2, 1) := by decide +kernel
theorem dL_typeTest_148 : decode cL_typeTest 148 = .ok (.bipush 8, 2) := by decide +kernel
theorem dL_typeTest_150 : decode cL_typeTest 150 = .ok (.ishr, 1) := by decide +kernel
theorem dL_typeTest_151 : decode cL_typeTest 151 = .ok (.iconst 4, 1) := by decide +kernel
theorem dL_typeTest_152 : decode cL_typeTest 152 = .ok (.invokestatic 80, 3) := by decide +kernel
theorem dL_typeTest_155 : decode cL_typeTest 155 = .ok (.iadd, 1) := by decide +kernel
theorem dL_typeTest_156 : decode cL_typeTest 156 = .ok (.invokevirtual 21, 3) := by decide +kernel
theorem dL_typeTest_159 : decode cL_typeTest 159 = .ok (.ireturn, 1) := by decide +kernel
theorem dL_typeTest_160 : decode cL_typeTest 160 = .ok (.iload 4, 2) := by decide +kernel
theorem dL_typeTest_162 : decode cL_typeTest 162 = .ok (.iconst 3, 1) := by decide +kernel
theorem dL_typeTest_163 : decode cL_typeTest 163 = .ok (.if_icmp .ne 13, 3) := by decide +kernel
theorem dL_typeTest_166 : decode cL_typeTest 166 = .ok (.aload_n 0, 1) := by decide +kernel
theorem dL_typeTest_167 : decode cL_typeTest 167 = .ok (.iload_n 1, 1) := by decide +kernel
theorem dL_typeTest_168 : decode cL_typeTest 168 = .ok (.bipush 116, 2) := by decide +kernel
theorem dL_typeTest_170 : decode cL_typeTest 170 = .ok (.invokevirtual 21, 3) := by decide +kernel
theorem dL_typeTest_173 : decode cL_typeTest 173 = .ok (.goto 20, 3) := by decide +kernel
theorem dL_typeTest_176 : decode cL_typeTest 176 = .ok (.iload 4, 2) := by decide +kernel
theorem dL_typeTest_178 : decode cL_typeTest 178 = .ok (.iconst 4, 1) := by decide +kernel
theorem dL_typeTest_179 : decode cL_typeTest 179 = .ok (.if_icmp .ne 13, 3) := by decide +kernel
theorem dL_typeTest_182 : decode cL_typeTest 182 = .ok (.aload_n 0, 1) := by decide +kernel
theorem dL_typeTest_183 : decode cL_typeTest 183 = .ok (.iload_n 1, 1) := by decide +kernel
theorem dL_typeTest_184 : decode cL_typeTest 184 = .ok (.bipush 64, 2) := by decide +kernel
theorem dL_typeTest_186 : decode cL_typeTest 186 = .ok (.invokevirtual 21, 3) := by decide +kernel
theorem dL_typeTest_189 : decode cL_typeTest 189 = .ok (.goto 4, 3) := by decide +kernel
theorem dL_typeTest_192 : decode cL_typeTest 192 = .ok (.iload_n 3, 1) := by decide +kernel
theorem dL_typeTest_193 : decode cL_typeTest 193 = .ok (.istore_n 3, 1) := by decide +kernel
theorem dL_typeTest_194 : decode cL_typeTest 194 = .ok (.aload_n 0, 1) := by decide +kernel
theorem dL_typeTest_195 : decode cL_typeTest 195 = .ok (.iload_n 1, 1) := by decide +kernel
theorem dL_typeTest_196 : decode cL_typeTest 196 = .ok (.iload 4, 2) := by decide +kernel
theorem dL_typeTest_198 : decode cL_typeTest 198 = .ok (.iconst 5, 1) := by decide +kernel
theorem dL_typeTest_199 : decode cL_typeTest 199 = .ok (.if_icmp .ne 8, 3) := by decide +kernel
theorem dL_typeTest_202 : decode cL_typeTest 202 = .ok (.bipush 42, 2) := by decide +kernel
theorem dL_typeTest_204 : decode cL_typeTest 204 = .ok (.goto 15, 3) := by decide +kernel
theorem dL_typeTest_207 : decode cL_typeTest 207 = .ok (.bipush 48, 2) := by decide +kernel
theorem dL_typeTest_209 : decode cL_typeTest 209 = .ok (.iload_n 2, 1) := by decide +kernel
theorem dL_typeTest_210 : decode cL_typeTest 210 = .ok (.bipush 8, 2) := by decide +kernel
theorem dL_typeTest_212 : decode cL_typeTest 212 = .ok (.ishr, 1) := by decide +kernel
theorem dL_typeTest_213 : decode cL_typeTest 213 = .ok (.bipush 6, 2) := by decide +kernel
theorem dL_typeTest_215 : decode cL_typeTest 215 = .ok (.invokestatic 80, 3) := by decide +kernel
theorem dL_typeTest_218 : decode cL_typeTest 218 = .ok (.iadd, 1) := by decide +kernel
theorem dL_typeTest_219 : decode cL_typeTest 219 = .ok (.invokevirtual 21, 3) := by decide +kernel
theorem dL_typeTest_222 : decode cL_typeTest 222 = .ok (.ireturn, 1) := by decide +kernel
theorem dL_act_0 : decode cL_act 0 = .ok (.iload_n 1, 1) := by decide +kernel
theorem dL_act_1 : decode cL_act 1 = .ok (.bipush 24, 2) := by decide +kernel
theorem dL_act_3 : decode cL_act 3 = .ok (.ishr, 1) := by decide +kernel
theorem dL_act_4 : decode cL_act 4 = .ok (.bipush 9, 2) := by decide +kernel
theorem dL_act_6 : decode cL_act 6 = .ok (.invokestatic 80, 3) := by decide +kernel
theorem dL_act_9 : decode cL_act 9 = .ok (.ifCond .ne 7, 3) := by decide +kernel
theorem dL_act_12 : decode cL_act 12 = .ok (.iconst 1, 1) := by decide +kernel
theorem dL_act_13 : decode cL_act 13 = .ok (.goto 4, 3) := by decide +kernel
theorem dL_act_16 : decode cL_act 16 = .ok (.iconst 0, 1) := by decide +kernel
theorem dL_act_17 : decode cL_act 17 = .ok (.istore_n 2, 1) := by decide +kernel
theorem dL_act_18 : decode cL_act 18 = .ok (.iload_n 2, 1) := by decide +kernel
theorem dL_act_19 : decode cL_act 19 = .ok (.ifCond .eq 16, 3) := by decide +kernel
theorem dL_act_22 : decode cL_act 22 = .ok (.iload_n 1, 1) := by decide +kernel
theorem dL_act_23 : decode cL_act 23 = .ok (.iconst 4, 1) := by decide +kernel
theorem dL_act_24 : decode cL_act 24 = .ok (.ishr, 1) := by decide +kernel
theorem dL_act_25 : decode cL_act 25 = .ok (.bipush 23, 2) := by decide +kernel
theorem dL_act_27 : decode cL_act 27 = .ok (.invokestatic 80, 3) := by decide +kernel
theorem dL_act_30 : decode cL_act 30 = .ok (.iconst 1, 1) := by decide +kernel
theorem dL_act_31 : decode cL_act 31 = .ok (.isub, 1) := by decide +kernel
theorem dL_act_32 : decode cL_act 32 = .ok (.goto 11, 3) := by decide +kernel
theorem dL_act_35 : decode cL_act 35 = .ok (.iload_n 1, 1) := by decide +kernel
theorem dL_act_36 : decode cL_act 36 = .ok (.iconst 4, 1) := by decide +kernel
theorem dL_act_37 : decode cL_act 37 = .ok (.ishr, 1) := by decide +kernel
theorem dL_act_38 : decode cL_act 38 = .ok (.bipush 6, 2) := by decide +kernel
theorem dL_act_40 : decode cL_act 40 = .ok (.invokestatic 80, 3) := by decide +kernel
theorem dL_act_43 : decode cL_act 43 = .ok (.istore_n 3, 1) := by decide +kernel
theorem dL_act_44 : decode cL_act 44 = .ok (.iload_n 2, 1) := by decide +kernel
theorem dL_act_45 : decode cL_act 45 = .ok (.ifCond .eq 17, 3) := by decide +kernel
theorem dL_act_48 : decode cL_act 48 = .ok (.iload_n 1, 1) := by decide +kernel
theorem dL_act_49 : decode cL_act 49 = .ok (.bipush 9, 2) := by decide +kernel
theorem dL_act_51 : decode cL_act 51 = .ok (.ishr, 1) := by decide +kernel
theorem dL_act_52 : decode cL_act 52 = .ok (.bipush 10, 2) := by decide +kernel
theorem dL_act_54 : decode cL_act 54 = .ok (.invokestatic 80, 3) := by decide +kernel
theorem dL_act_57 : decode cL_act 57 = .ok (.iconst 1, 1) := by decide +kernel
theorem dL_act_58 : decode cL_act 58 = .ok (.isub, 1) := by decide +kernel
theorem dL_act_59 : decode cL_act 59 = .ok (.goto 11, 3) := by decide +kernel
theorem dL_act_62 : decode cL_act 62 = .ok (.iload_n 1, 1) := by decide +kernel
theorem dL_act_63 : decode cL_act 63 = .ok (.bipush 9, 2) := by decide +kernel
theorem dL_act_65 : decode cL_act 65 = .ok (.ishr, 1) := by decide +kernel
theorem dL_act_66 : decode cL_act 66 = .ok (.iconst 4, 1) := by decide +kernel
theorem dL_act_67 : decode cL_act 67 = .ok (.invokestatic 80, 3) := by decide +kernel
theorem dL_act_70 : decode cL_act 70 = .ok (.istore 4, 2) := by decide +kernel
theorem dL_act_72 : decode cL_act 72 = .ok (.iload_n 2, 1) := by decide +kernel
theorem dL_act_73 : decode cL_act 73 = .ok (.ifCond .eq 16, 3) := by decide +kernel
theorem dL_act_76 : decode cL_act 76 = .ok (.iload_n 1, 1) := by decide +kernel
theorem dL_act_77 : decode cL_act 77 = .ok (.iconst 4, 1) := by decide +kernel
theorem dL_act_78 : decode cL_act 78 = .ok (.ishr, 1) := by decide +kernel
theorem dL_act_79 : decode cL_act 79 = .ok (.bipush 8, 2) := by decide +kernel
theorem dL_act_81 : decode cL_act 81 = .ok (.invokestatic 80, 3) := by decide +kernel
theorem dL_act_84 : decode cL_act 84 = .ok (.iconst 1, 1) := by decide +kernel
theorem dL_act_85 : decode cL_act 85 = .ok (.isub, 1) := by decide +kernel
theorem dL_act_86 : decode cL_act 86 = .ok (.goto 10, 3) := by decide +kernel
theorem dL_act_89 : decode cL_act 89 = .ok (.iload_n 1, 1) := by decide +kernel
theorem dL_act_90 : decode cL_act 90 = .ok (.iconst 4, 1) := by decide +kernel
theorem dL_act_91 : decode cL_act 91 = .ok (.ishr, 1) := by decide +kernel
theorem dL_act_92 : decode cL_act 92 = .ok (.iconst 3, 1) := by decide +kernel
theorem dL_act_93 : decode cL_act 93 = .ok (.invokestatic 80, 3) := by decide +kernel
theorem dL_act_96 : decode cL_act 96 = .ok (.istore 5, 2) := by decide +kernel
theorem dL_act_98 : decode cL_act 98 = .ok (.iload_n 2, 1) := by decide +kernel
theorem dL_act_99 : decode cL_act 99 = .ok (.ifCond .eq 16, 3) := by decide +kernel
theorem dL_act_102 : decode cL_act 102 = .ok (.iload_n 1, 1) := by decide +kernel
theorem dL_act_103 : decode cL_act 103 = .ok (.iconst 4, 1) := by decide +kernel
theorem dL_act_104 : decode cL_act 104 = .ok (.ishr, 1) := by decide +kernel
theorem dL_act_105 : decode cL_act 105 = .ok (.bipush 8, 2) := by decide +kernel
theorem dL_act_107 : decode cL_act 107 = .ok (.invokestatic 80, 3) := by decide +kernel
theorem dL_act_110 : decode cL_act 110 = .ok (.iconst 1, 1) := by decide +kernel
theorem dL_act_111 : decode cL_act 111 = .ok (.isub, 1) := by decide +kernel
theorem dL_act_112 : decode cL_act 112 = .ok (.goto 10, 3) := by decide +kernel
theorem dL_act_115 : decode cL_act 115 = .ok (.iload_n 1, 1) := by decide +kernel
theorem dL_act_116 : decode cL_act 116 = .ok (.iconst 4, 1) := by decide +kernel
theorem dL_act_117 : decode cL_act 117 = .ok (.ishr, 1) := by decide +kernel
theorem dL_act_118 : decode cL_act 118 = .ok (.iconst 4, 1) := by decide +kernel
theorem dL_act_119 : decode cL_act 119 = .ok (.invokestatic 80, 3) := by decide +kernel
theorem dL_act_122 : decode cL_act 122 = .ok (.istore 6, 2) := by decide +kernel
theorem dL_act_124 : decode cL_act 124 = .ok (.iload_n 1, 1) := by decide +kernel
theorem dL_act_125 : decode cL_act 125 = .ok (.bipush 26, 2) := by decide +kernel
theorem dL_act_127 : decode cL_act 127 = .ok (.invokestatic 80, 3) := by decide +kernel
theorem dL_act_130 : decode cL_act 130 = .ok (.tableswitch 593 0 21 #[102, 159, 207, 244, 244, 244, 277, 277, 284, 291, 291, 291, 360, 385, 431, 488, 523, 556, 563, 571, 579, 586], 102) := by decide +kernel
theorem dL_act_232 : decode cL_act 232 = .ok (.aload_n 0, 1) := by decide +kernel
theorem dL_act_233 : decode cL_act 233 = .ok (.iload_n 3, 1) := by decide +kernel
theorem dL_act_234 : decode cL_act 234 = .ok (.iload_n 2, 1) := by decide +kernel
theorem dL_act_235 : decode cL_act 235 = .ok (.ifCond .eq 16, 3) := by decide +kernel
theorem dL_act_238 : decode cL_act 238 = .ok (.iload_n 1, 1) := by decide +kernel
theorem dL_act_239 : decode cL_act 239 = .ok (.bipush 9, 2) := by decide +kernel
theorem dL_act_241 : decode cL_act 241 = .ok (.ishr, 1) := by decide +kernel
theorem dL_act_242 : decode cL_act 242 = .ok (.iconst 5, 1) := by decide +kernel
theorem dL_act_243 : decode cL_act 243 = .ok (.invokestatic 80, 3) := by decide +kernel
theorem dL_act_246 : decode cL_act 246 = .ok (.iconst 1, 1) := by decide +kernel
theorem dL_act_247 : decode cL_act 247 = .ok (.isub, 1) := by decide +kernel
theorem dL_act_248 : decode cL_act 248 = .ok (.goto 11, 3) := by decide +kernel
theorem dL_act_251 : decode cL_act 251 = .ok (.iload_n 1, 1) := by decide +kernel
theorem dL_act_252 : decode cL_act 252 = .ok (.bipush 9, 2) := by decide +kernel
theorem dL_act_254 : decode cL_act 254 = .ok (.ishr, 1) := by decide +kernel
theorem dL_act_255 : decode cL_act 255 = .ok (.iconst 3, 1) := by decide +kernel
theorem dL_act_256 : decode cL_act 256 = .ok (.invokestatic 80, 3) := by decide +kernel
theorem dL_act_259 : decode cL_act 259 = .ok (.iload_n 2, 1) := by decide +kernel
theorem dL_act_260 : decode cL_act 260 = .ok (.ifCond .eq 17, 3) := by decide +kernel
theorem dL_act_263 : decode cL_act 263 = .ok (.iload_n 1, 1) := by decide +kernel
theorem dL_act_264 : decode cL_act 264 = .ok (.bipush 11, 2) := by decide +kernel
theorem dL_act_266 : decode cL_act 266 = .ok (.ishr, 1) := by decide +kernel
theorem dL_act_267 : decode cL_act 267 = .ok (.bipush 103, 2) := by decide +kernel
theorem dL_act_269 : decode cL_act 269 = .ok (.invokestatic 80, 3) := by decide +kernel
theorem dL_act_272 : decode cL_act 272 = .ok (.iconst 1, 1) := by decide +kernel
theorem dL_act_273 : decode cL_act 273 = .ok (.isub, 1) := by decide +kernel
theorem dL_act_274 : decode cL_act 274 = .ok (.goto 11, 3) := by decide +kernel
theorem dL_act_277 : decode cL_act 277 = .ok (.iload_n 1, 1) := by decide +kernel
theorem dL_act_278 : decode cL_act 278 = .ok (.bipush 11, 2) := by decide +kernel
theorem dL_act_280 : decode cL_act 280 = .ok (.ishr, 1) := by decide +kernel
theorem dL_act_281 : decode cL_act 281 = .ok (.iconst 4, 1) := by decide +kernel
theorem dL_act_282 : decode cL_act 282 = .ok (.invokestatic 80, 3) := by decide +kernel
theorem dL_act_285 : decode cL_act 285 = .ok (.invokestatic 85, 3) := by decide +kernel
theorem dL_act_288 : decode cL_act 288 = .ok (.ireturn, 1) := by decide +kernel
theorem dL_act_289 : decode cL_act 289 = .ok (.aload_n 0, 1) := by decide +kernel
theorem dL_act_290 : decode cL_act 290 = .ok (.iload_n 3, 1) := by decide +kernel
theorem dL_act_291 : decode cL_act 291 = .ok (.iload_n 2, 1) := by decide +kernel
theorem dL_act_292 : decode cL_act 292 = .ok (.ifCond .eq 17, 3) := by decide +kernel
theorem dL_act_295 : decode cL_act 295 = .ok (.iload_n 1, 1) := by decide +kernel
theorem dL_act_296 : decode cL_act 296 = .ok (.bipush 9, 2) := by decide +kernel
theorem dL_act_298 : decode cL_act 298 = .ok (.ishr, 1) := by decide +kernel
theorem dL_act_299 : decode cL_act 299 = .ok (.bipush 10, 2) := by decide +kernel
theorem dL_act_301 : decode cL_act 301 = .ok (.invokestatic 80, 3) := by decide +kernel
theorem dL_act_304 : decode cL_act 304 = .ok (.iconst 1, 1) := by decide +kernel
theorem dL_act_305 : decode cL_act 305 = .ok (.isub, 1) := by decide +kernel
theorem dL_act_306 : decode cL_act 306 = .ok (.goto 12, 3) := by decide +kernel
theorem dL_act_309 : decode cL_act 309 = .ok (.iload_n 1, 1) := by decide +kernel
theorem dL_act_310 : decode cL_act 310 = .ok (.bipush 9, 2) := by decide +kernel
theorem dL_act_312 : decode cL_act 312 = .ok (.ishr, 1) := by decide +kernel
theorem dL_act_313 : decode cL_act 313 = .ok (.bipush 6, 2) := by decide +kernel
theorem dL_act_315 : decode cL_act 315 = .ok (.invokestatic 80, 3) := by decide +kernel
theorem dL_act_318 : decode cL_act 318 = .ok (.iload_n 1, 1) := by decide +kernel
theorem dL_act_319 : decode cL_act 319 = .ok (.bipush 12, 2) := by decide +kernel
theorem dL_act_321 : decode cL_act 321 = .ok (.ishr, 1) := by decide +kernel
theorem dL_act_322 : decode cL_act 322 = .ok (.iconst 1, 1) := by decide +kernel
theorem dL_act_323 : decode cL_act 323 = .ok (.iand, 1) := by decide +kernel
theorem dL_act_324 : decode cL_act 324 = .ok (.iconst 1, 1) := by decide +kernel
theorem dL_act_325 : decode cL_act 325 = .ok (.if_icmp .ne 7, 3) := by decide +kernel
theorem dL_act_328 : decode cL_act 328 = .ok (.iconst 1, 1) := by decide +kernel
theorem dL_act_329 : decode cL_act 329 = .ok (.goto 4, 3) := by decide +kernel
theorem dL_act_332 : decode cL_act 332 = .ok (.iconst 0, 1) := by decide +kernel
theorem dL_act_333 : decode cL_act 333 = .ok (.invokestatic 88, 3) := by decide +kernel
theorem dL_act_336 : decode cL_act 336 = .ok (.ireturn, 1) := by decide +kernel
theorem dL_act_337 : decode cL_act 337 = .ok (.aload_n 0, 1) := by decide +kernel
theorem dL_act_338 : decode cL_act 338 = .ok (.iload 6, 2) := by decide +kernel
theorem dL_act_340 : decode cL_act 340 = .ok (.iload_n 2, 1) := by decide +kernel
theorem dL_act_341 : decode cL_act 341 = .ok (.ifCond .eq 18, 3) := by decide +kernel
theorem dL_act_344 : decode cL_act 344 = .ok (.bipush 31, 2) := by decide +kernel
theorem dL_act_346 : decode cL_act 346 = .ok (.iload_n 1, 1) := by decide +kernel
theorem dL_act_347 : decode cL_act 347 = .ok (.bipush 9, 2) := by decide +kernel
theorem dL_act_349 : decode cL_act 349 = .ok (.ishr, 1) := by decide +kernel
theorem dL_act_350 : decode cL_act 350 = .ok (.bipush 98, 2) := by decide +kernel
theorem dL_act_352 : decode cL_act 352 = .ok (.invokestatic 80, 3) := by decide +kernel
theorem dL_act_355 : decode cL_act 355 = .ok (.iadd, 1) := by decide +kernel
theorem dL_act_356 : decode cL_act 356 = .ok (.goto 14, 3) := by decide +kernel
theorem dL_act_359 : decode cL_act 359 = .ok (.bipush 38, 2) := by decide +kernel
theorem dL_act_361 : decode cL_act 361 = .ok (.iload_n 1, 1) := by decide +kernel
theorem dL_act_362 : decode cL_act 362 = .ok (.bipush 9, 2) := by decide +kernel
theorem dL_act_364 : decode cL_act 364 = .ok (.ishr, 1) := by decide +kernel
theorem dL_act_365 : decode cL_act 365 = .ok (.iconst 5, 1) := by decide +kernel
theorem dL_act_366 : decode cL_act 366 = .ok (.invokestatic 80, 3) := by decide +kernel
theorem dL_act_369 : decode cL_act 369 = .ok (.iadd, 1) := by decide +kernel
theorem dL_act_370 : decode cL_act 370 = .ok (.invokestatic 91, 3) := by decide +kernel
theorem dL_act_373 : decode cL_act 373 = .ok (.ireturn, 1) := by decide +kernel
theorem dL_act_374 : decode cL_act 374 = .ok (.iload_n 2, 1) := by decide +kernel
theorem dL_act_375 : decode cL_act 375 = .ok (.ifCond .eq 21, 3) := by decide +kernel
theorem dL_act_378 : decode cL_act 378 = .ok (.aload_n 0, 1) := by decide +kernel
theorem dL_act_379 : decode cL_act 379 = .ok (.iload 6, 2) := by decide +kernel
theorem dL_act_381 : decode cL_act 381 = .ok (.iload_n 1, 1) := by decide +kernel
theorem dL_act_382 : decode cL_act 382 = .ok (.bipush 9, 2) := by decide +kernel
theorem dL_act_384 : decode cL_act 384 = .ok (.ishr, 1) := by decide +kernel
theorem dL_act_385 : decode cL_act 385 = .ok (.bipush 70, 2) := by decide +kernel
theorem dL_act_387 : decode cL_act 387 = .ok (.invokestatic 80, 3) := by decide +kernel
theorem dL_act_390 : decode cL_act 390 = .ok (.invokestatic 94, 3) := by decide +kernel
theorem dL_act_393 : decode cL_act 393 = .ok (.goto 13, 3) := by decide +kernel
theorem dL_act_396 : decode cL_act 396 = .ok (.aload_n 0, 1) := by decide +kernel
theorem dL_act_397 : decode cL_act 397 = .ok (.iload 6, 2) := by decide +kernel
theorem dL_act_399 : decode cL_act 399 = .ok (.iload_n 1, 1) := by decide +kernel
theorem dL_act_400 : decode cL_act 400 = .ok (.bipush 8, 2) := by decide +kernel
theorem dL_act_402 : decode cL_act 402 = .ok (.ishr, 1) := by decide +kernel
theorem dL_act_403 : decode cL_act 403 = .ok (.invokestatic 96, 3) := by decide +kernel
theorem dL_act_406 : decode cL_act 406 = .ok (.ireturn, 1) := by decide +kernel
theorem dL_act_407 : decode cL_act 407 = .ok (.aload_n 0, 1) := by decide +kernel
theorem dL_act_408 : decode cL_act 408 = .ok (.iload 6, 2) := by decide +kernel
theorem dL_act_410 : decode cL_act 410 = .ok (.invokestatic 99, 3) := by decide +kernel
theorem dL_act_413 : decode cL_act 413 = .ok (.ireturn, 1) := by decide +kernel
theorem dL_act_414 : decode cL_act 414 = .ok (.aload_n 0, 1) := by decide +kernel
theorem dL_act_415 : decode cL_act 415 = .ok (.iload 6, 2) := by decide +kernel
theorem dL_act_417 : decode cL_act 417 = .ok (.invokestatic 102, 3) := by decide +kernel
theorem dL_act_420 : decode cL_act 420 = .ok (.ireturn, 1) := by decide +kernel
theorem dL_act_421 : decode cL_act 421 = .ok (.aload_n 0, 1) := by decide +kernel
theorem dL_act_422 : decode cL_act 422 = .ok (.iload 4, 2) := by decide +kernel
theorem dL_act_424 : decode cL_act 424 = .ok (.iload_n 2, 1) := by decide +kernel
theorem dL_act_425 : decode cL_act 425 = .ok (.ifCond .eq 16, 3) := by decide +kernel
theorem dL_act_428 : decode cL_act 428 = .ok (.iload_n 1, 1) := by decide +kernel
theorem dL_act_429 : decode cL_act 429 = .ok (.iconst 4, 1) := by decide +kernel
theorem dL_act_430 : decode cL_act 430 = .ok (.ishr, 1) := by decide +kernel
theorem dL_act_431 : decode cL_act 431 = .ok (.bipush 8, 2) := by decide +kernel
theorem dL_act_433 : decode cL_act 433 = .ok (.invokestatic 80, 3) := by decide +kernel
theorem dL_act_436 : decode cL_act 436 = .ok (.iconst 1, 1) := by decide +kernel
theorem dL_act_437 : decode cL_act 437 = .ok (.isub, 1) := by decide +kernel
theorem dL_act_438 : decode cL_act 438 = .ok (.goto 4, 3) := by decide +kernel
theorem dL_act_441 : decode cL_act 441 = .ok (.iconst 0, 1) := by decide +kernel
theorem dL_act_442 : decode cL_act 442 = .ok (.iload_n 1, 1) := by decide +kernel
theorem dL_act_443 : decode cL_act 443 = .ok (.bipush 12, 2) := by decide +kernel
theorem dL_act_445 : decode cL_act 445 = .ok (.ishr, 1) := by decide +kernel
theorem dL_act_446 : decode cL_act 446 = .ok (.iload_n 2, 1) := by decide +kernel
theorem dL_act_447 : decode cL_act 447 = .ok (.ifCond .eq 8, 3) := by decide +kernel
theorem dL_act_450 : decode cL_act 450 = .ok (.bipush 8, 2) := by decide +kernel
theorem dL_act_452 : decode cL_act 452 = .ok (.goto 4, 3) := by decide +kernel
theorem dL_act_455 : decode cL_act 455 = .ok (.iconst 4, 1) := by decide +kernel
theorem dL_act_456 : decode cL_act 456 = .ok (.invokestatic 80, 3) := by decide +kernel
theorem dL_act_459 : decode cL_act 459 = .ok (.iload_n 2, 1) := by decide +kernel
theorem dL_act_460 : decode cL_act 460 = .ok (.ifCond .eq 17, 3) := by decide +kernel
theorem dL_act_463 : decode cL_act 463 = .ok (.iload_n 1, 1) := by decide +kernel
theorem dL_act_464 : decode cL_act 464 = .ok (.bipush 15, 2) := by decide +kernel
theorem dL_act_466 : decode cL_act 466 = .ok (.ishr, 1) := by decide +kernel
theorem dL_act_467 : decode cL_act 467 = .ok (.bipush 12, 2) := by decide +kernel
theorem dL_act_469 : decode cL_act 469 = .ok (.invokestatic 80, 3) := by decide +kernel
theorem dL_act_472 : decode cL_act 472 = .ok (.iconst 1, 1) := by decide +kernel
theorem dL_act_473 : decode cL_act 473 = .ok (.isub, 1) := by decide +kernel
theorem dL_act_474 : decode cL_act 474 = .ok (.goto 12, 3) := by decide +kernel
theorem dL_act_477 : decode cL_act 477 = .ok (.iload_n 1, 1) := by decide +kernel
theorem dL_act_478 : decode cL_act 478 = .ok (.bipush 15, 2) := by decide +kernel
theorem dL_act_480 : decode cL_act 480 = .ok (.ishr, 1) := by decide +kernel
theorem dL_act_481 : decode cL_act 481 = .ok (.bipush 8, 2) := by decide +kernel
theorem dL_act_483 : decode cL_act 483 = .ok (.invokestatic 80, 3) := by decide +kernel
theorem dL_act_486 : decode cL_act 486 = .ok (.invokestatic 104, 3) := by decide +kernel
theorem dL_act_489 : decode cL_act 489 = .ok (.ireturn, 1) := by decide +kernel
theorem dL_act_490 : decode cL_act 490 = .ok (.aload_n 0, 1) := by decide +kernel
theorem dL_act_491 : decode cL_act 491 = .ok (.iload 4, 2) := by decide +kernel
theorem dL_act_493 : decode cL_act 493 = .ok (.iload_n 2, 1) := by decide +kernel
theorem dL_act_494 : decode cL_act 494 = .ok (.ifCond .eq 16, 3) := by decide +kernel
theorem dL_act_497 : decode cL_act 497 = .ok (.iload_n 1, 1) := by decide +kernel
theorem dL_act_498 : decode cL_act 498 = .ok (.iconst 4, 1) := by decide +kernel
theorem dL_act_499 : decode cL_act 499 = .ok (.ishr, 1) := by decide +kernel
theorem dL_act_500 : decode cL_act 500 = .ok (.bipush 7, 2) := by decide +kernel
theorem dL_act_502 : decode cL_act 502 = .ok (.invokestatic 80, 3) := by decide +kernel
theorem dL_act_505 : decode cL_act 505 = .ok (.iconst 1, 1) := by decide +kernel
theorem dL_act_506 : decode cL_act 506 = .ok (.isub, 1) := by decide +kernel
theorem dL_act_507 : decode cL_act 507 = .ok (.goto 4, 3) := by decide +kernel
theorem dL_act_510 : decode cL_act 510 = .ok (.iconst 0, 1) := by decide +kernel
theorem dL_act_511 : decode cL_act 511 = .ok (.invokestatic 107, 3) := by decide +kernel
theorem dL_act_514 : decode cL_act 514 = .ok (.ireturn, 1) := by decide +kernel
theorem dL_act_515 : decode cL_act 515 = .ok (.aload_n 0, 1) := by decide +kernel
theorem dL_act_516 : decode cL_act 516 = .ok (.iload 4, 2) := by decide +kernel
theorem dL_act_518 : decode cL_act 518 = .ok (.iload_n 2, 1) := by decide +kernel
theorem dL_act_519 : decode cL_act 519 = .ok (.ifCond .eq 16, 3) := by decide +kernel
theorem dL_act_522 : decode cL_act 522 = .ok (.iload_n 1, 1) := by decide +kernel
theorem dL_act_523 : decode cL_act 523 = .ok (.iconst 4, 1) := by decide +kernel
theorem dL_act_524 : decode cL_act 524 = .ok (.ishr, 1) := by decide +kernel
theorem dL_act_525 : decode cL_act 525 = .ok (.bipush 10, 2) := by decide +kernel
theorem dL_act_527 : decode cL_act 527 = .ok (.invokestatic 80, 3) := by decide +kernel
theorem dL_act_530 : decode cL_act 530 = .ok (.iconst 1, 1) := by decide +kernel
theorem dL_act_531 : decode cL_act 531 = .ok (.isub, 1) := by decide +kernel
theorem dL_act_532 : decode cL_act 532 = .ok (.goto 10, 3) := by decide +kernel
theorem dL_act_535 : decode cL_act 535 = .ok (.iload_n 1, 1) := by decide +kernel
theorem dL_act_536 : decode cL_act 536 = .ok (.iconst 4, 1) := by decide +kernel
theorem dL_act_537 : decode cL_act 537 = .ok (.ishr, 1) := by decide +kernel
theorem dL_act_538 : decode cL_act 538 = .ok (.iconst 4, 1) := by decide +kernel
theorem dL_act_539 : decode cL_act 539 = .ok (.invokestatic 80, 3) := by decide +kernel
theorem dL_act_542 : decode cL_act 542 = .ok (.iload_n 1, 1) := by decide +kernel
theorem dL_act_543 : decode cL_act 543 = .ok (.bipush 12, 2) := by decide +kernel
theorem dL_act_545 : decode cL_act 545 = .ok (.ishr, 1) := by decide +kernel
theorem dL_act_546 : decode cL_act 546 = .ok (.iconst 1, 1) := by decide +kernel
theorem dL_act_547 : decode cL_act 547 = .ok (.iand, 1) := by decide +kernel
theorem dL_act_548 : decode cL_act 548 = .ok (.iconst 1, 1) := by decide +kernel
theorem dL_act_549 : decode cL_act 549 = .ok (.if_icmp .ne 7, 3) := by decide +kernel
theorem dL_act_552 : decode cL_act 552 = .ok (.iconst 1, 1) := by decide +kernel
theorem dL_act_553 : decode cL_act 553 = .ok (.goto 4, 3) := by decide +kernel
theorem dL_act_556 : decode cL_act 556 = .ok (.iconst 0, 1) := by decide +kernel
theorem dL_act_557 : decode cL_act 557 = .ok (.invokestatic 109, 3) := by decide +kernel
theorem dL_act_560 : decode cL_act 560 = .ok (.ireturn, 1) := by decide +kernel
theorem dL_act_561 : decode cL_act 561 = .ok (.aload_n 0, 1) := by decide +kernel
theorem dL_act_562 : decode cL_act 562 = .ok (.iload 5, 2) := by decide +kernel
theorem dL_act_564 : decode cL_act 564 = .ok (.iload_n 2, 1) := by decide +kernel
theorem dL_act_565 : decode cL_act 565 = .ok (.ifCond .eq 17, 3) := by decide +kernel
theorem dL_act_568 : decode cL_act 568 = .ok (.iload_n 1, 1) := by decide +kernel
theorem dL_act_569 : decode cL_act 569 = .ok (.bipush 7, 2) := by decide +kernel
theorem dL_act_571 : decode cL_act 571 = .ok (.ishr, 1) := by decide +kernel
theorem dL_act_572 : decode cL_act 572 = .ok (.bipush 103, 2) := by decide +kernel
theorem dL_act_574 : decode cL_act 574 = .ok (.invokestatic 80, 3) := by decide +kernel
theorem dL_act_577 : decode cL_act 577 = .ok (.iconst 1, 1) := by decide +kernel
theorem dL_act_578 : decode cL_act 578 = .ok (.isub, 1) := by decide +kernel
theorem dL_act_579 : decode cL_act 579 = .ok (.goto 11, 3) := by decide +kernel
theorem dL_act_582 : decode cL_act 582 = .ok (.iload_n 1, 1) := by decide +kernel
theorem dL_act_583 : decode cL_act 583 = .ok (.bipush 7, 2) := by decide +kernel
theorem dL_act_585 : decode cL_act 585 = .ok (.ishr, 1) := by decide +kernel
theorem dL_act_586 : decode cL_act 586 = .ok (.iconst 4, 1) := by decide +kernel
theorem dL_act_587 : decode cL_act 587 = .ok (.invokestatic 80, 3) := by decide +kernel
theorem dL_act_590 : decode cL_act 590 = .ok (.iload_n 1, 1) := by decide +kernel
theorem dL_act_591 : decode cL_act 591 = .ok (.bipush 9, 2) := by decide +kernel
theorem dL_act_593 : decode cL_act 593 = .ok (.ishr, 1) := by decide +kernel
theorem dL_act_594 : decode cL_act 594 = .ok (.iconst 4, 1) := by decide +kernel
theorem dL_act_595 : decode cL_act 595 = .ok (.invokestatic 80, 3) := by decide +kernel
theorem dL_act_598 : decode cL_act 598 = .ok (.iload_n 1, 1) := by decide +kernel
theorem dL_act_599 : decode cL_act 599 = .ok (.bipush 11, 2) := by decide +kernel
theorem dL_act_601 : decode cL_act 601 = .ok (.ishr, 1) := by decide +kernel
theorem dL_act_602 : decode cL_act 602 = .ok (.iconst 3, 1) := by decide +kernel
theorem dL_act_603 : decode cL_act 603 = .ok (.invokestatic 80, 3) := by decide +kernel
theorem dL_act_606 : decode cL_act 606 = .ok (.iload_n 1, 1) := by decide +kernel
theorem dL_act_607 : decode cL_act 607 = .ok (.bipush 13, 2) := by decide +kernel
theorem dL_act_609 : decode cL_act 609 = .ok (.ishr, 1) := by decide +kernel
theorem dL_act_610 : decode cL_act 610 = .ok (.iconst 3, 1) := by decide +kernel
theorem dL_act_611 : decode cL_act 611 = .ok (.invokestatic 80, 3) := by decide +kernel
theorem dL_act_614 : decode cL_act 614 = .ok (.invokestatic 111, 3) := by decide +kernel
theorem dL_act_617 : decode cL_act 617 = .ok (.ireturn, 1) := by decide +kernel
theorem dL_act_618 : decode cL_act 618 = .ok (.aload_n 0, 1) := by decide +kernel
theorem dL_act_619 : decode cL_act 619 = .ok (.iload 5, 2) := by decide +kernel
theorem dL_act_621 : decode cL_act 621 = .ok (.iload_n 2, 1) := by decide +kernel
theorem dL_act_622 : decode cL_act 622 = .ok (.ifCond .eq 18, 3) := by decide +kernel
theorem dL_act_625 : decode cL_act 625 = .ok (.iload_n 1, 1) := by decide +kernel
theorem dL_act_626 : decode cL_act 626 = .ok (.bipush 7, 2) := by decide +kernel
theorem dL_act_628 : decode cL_act 628 = .ok (.ishr, 1) := by decide +kernel
theorem dL_act_629 : decode cL_act 629 = .ok (.sipush 1004, 3) := by decide +kernel
theorem dL_act_632 : decode cL_act 632 = .ok (.invokestatic 80, 3) := by decide +kernel
theorem dL_act_635 : decode cL_act 635 = .ok (.iconst 1, 1) := by decide +kernel
theorem dL_act_636 : decode cL_act 636 = .ok (.isub, 1) := by decide +kernel
theorem dL_act_637 : decode cL_act 637 = .ok (.goto 12, 3) := by decide +kernel
theorem dL_act_640 : decode cL_act 640 = .ok (.iload_n 1, 1) := by decide +kernel
theorem dL_act_641 : decode cL_act 641 = .ok (.bipush 7, 2) := by decide +kernel
theorem dL_act_643 : decode cL_act 643 = .ok (.ishr, 1) := by decide +kernel
theorem dL_act_644 : decode cL_act 644 = .ok (.bipush 50, 2) := by decide +kernel
theorem dL_act_646 : decode cL_act 646 = .ok (.invokestatic 80, 3) := by decide +kernel
theorem dL_act_649 : decode cL_act 649 = .ok (.invokestatic 114, 3) := by decide +kernel
theorem dL_act_652 : decode cL_act 652 = .ok (.ireturn, 1) := by decide +kernel
theorem dL_act_653 : decode cL_act 653 = .ok (.aload_n 0, 1) := by decide +kernel
theorem dL_act_654 : decode cL_act 654 = .ok (.iload 5, 2) := by decide +kernel
theorem dL_act_656 : decode cL_act 656 = .ok (.iload_n 2, 1) := by decide +kernel
theorem dL_act_657 : decode cL_act 657 = .ok (.ifCond .eq 17, 3) := by decide +kernel
theorem dL_act_660 : decode cL_act 660 = .ok (.iload_n 1, 1) := by decide +kernel
theorem dL_act_661 : decode cL_act 661 = .ok (.bipush 7, 2) := by decide +kernel
theorem dL_act_663 : decode cL_act 663 = .ok (.ishr, 1) := by decide +kernel
theorem dL_act_664 : decode cL_act 664 = .ok (.bipush 6, 2) := by decide +kernel
theorem dL_act_666 : decode cL_act 666 = .ok (.invokestatic 80, 3) := by decide +kernel
theorem dL_act_669 : decode cL_act 669 = .ok (.iconst 1, 1) := by decide +kernel
theorem dL_act_670 : decode cL_act 670 = .ok (.isub, 1) := by decide +kernel
theorem dL_act_671 : decode cL_act 671 = .ok (.goto 11, 3) := by decide +kernel
theorem dL_act_674 : decode cL_act 674 = .ok (.iload_n 1, 1) := by decide +kernel
theorem dL_act_675 : decode cL_act 675 = .ok (.bipush 7, 2) := by decide +kernel
theorem dL_act_677 : decode cL_act 677 = .ok (.ishr, 1) := by decide +kernel
theorem dL_act_678 : decode cL_act 678 = .ok (.iconst 4, 1) := by decide +kernel
theorem dL_act_679 : decode cL_act 679 = .ok (.invokestatic 80, 3) := by decide +kernel
theorem dL_act_682 : decode cL_act 682 = .ok (.invokestatic 116, 3) := by decide +kernel
theorem dL_act_685 : decode cL_act 685 = .ok (.ireturn, 1) := by decide +kernel
theorem dL_act_686 : decode cL_act 686 = .ok (.aload_n 0, 1) := by decide +kernel
theorem dL_act_687 : decode cL_act 687 = .ok (.iload 5, 2) := by decide +kernel
theorem dL_act_689 : decode cL_act 689 = .ok (.invokestatic 118, 3) := by decide +kernel
theorem dL_act_692 : decode cL_act 692 = .ok (.ireturn, 1) := by decide +kernel
theorem dL_act_693 : decode cL_act 693 = .ok (.aload_n 0, 1) := by decide +kernel
theorem dL_act_694 : decode cL_act 694 = .ok (.iload_n 3, 1) := by decide +kernel
theorem dL_act_695 : decode cL_act 695 = .ok (.iload 4, 2) := by decide +kernel
theorem dL_act_697 : decode cL_act 697 = .ok (.invokestatic 120, 3) := by decide +kernel
theorem dL_act_700 : decode cL_act 700 = .ok (.ireturn, 1) := by decide +kernel
theorem dL_act_701 : decode cL_act 701 = .ok (.aload_n 0, 1) := by decide +kernel
theorem dL_act_702 : decode cL_act 702 = .ok (.iload_n 3, 1) := by decide +kernel
theorem dL_act_703 : decode cL_act 703 = .ok (.iload 4, 2) := by decide +kernel
theorem dL_act_705 : decode cL_act 705 = .ok (.invokestatic 122, 3) := by decide +kernel
theorem dL_act_708 : decode cL_act 708 = .ok (.ireturn, 1) := by decide +kernel
theorem dL_act_709 : decode cL_act 709 = .ok (.aload_n 0, 1) := by decide +kernel
theorem dL_act_710 : decode cL_act 710 = .ok (.iload 5, 2) := by decide +kernel
theorem dL_act_712 : decode cL_act 712 = .ok (.invokestatic 124, 3) := by decide +kernel
theorem dL_act_715 : decode cL_act 715 = .ok (.ireturn, 1) := by decide +kernel
theorem dL_act_716 : decode cL_act 716 = .ok (.aload_n 0, 1) := by decide +kernel
theorem dL_act_717 : decode cL_act 717 = .ok (.iload 5, 2) := by decide +kernel
theorem dL_act_719 : decode cL_act 719 = .ok (.invokestatic 126, 3) := by decide +kernel
theorem dL_act_722 : decode cL_act 722 = .ok (.ireturn, 1) := by decide +kernel
theorem dL_act_723 : decode cL_act 723 = .ok (.aload_n 0, 1) := by decide +kernel
theorem dL_act_724 : decode cL_act 724 = .ok (.iload_n 3, 1) := by decide +kernel
theorem dL_act_725 : decode cL_act 725 = .ok (.iload 4, 2) := by decide +kernel
theorem dL_act_727 : decode cL_act 727 = .ok (.invokestatic 128, 3) := by decide +kernel
theorem dL_act_730 : decode cL_act 730 = .ok (.ireturn, 1) := by decide +kernel
theorem dL_areAlike_0 : decode cL_areAlike 0 = .ok (.aload_n 0, 1) := by decide +kernel
theorem dL_areAlike_1 : decode cL_areAlike 1 = .ok (.invokevirtual 130, 3) := by decide +kernel
theorem dL_areAlike_4 : decode cL_areAlike 4 = .ok (.aload_n 1, 1) := by decide +kernel
theorem dL_areAlike_5 : decode cL_areAlike 5 = .ok (.invokevirtual 130, 3) := by decide +kernel
theorem dL_areAlike_8 : decode cL_areAlike 8 = .ok (.if_icmp .ne 7, 3) := by decide +kernel
theorem dL_areAlike_11 : decode cL_areAlike 11 = .ok (.iconst 1, 1) := by decide +kernel
theorem dL_areAlike_12 : decode cL_areAlike 12 = .ok (.goto 4, 3) := by decide +kernel
theorem dL_areAlike_15 : decode cL_areAlike 15 = .ok (.iconst 0, 1) := by decide +kernel
theorem dL_areAlike_16 : decode cL_areAlike 16 = .ok (.istore_n 3, 1) := by decide +kernel
theorem dL_areAlike_17 : decode cL_areAlike 17 = .ok (.iconst 0, 1) := by decide +kernel
theorem dL_areAlike_18 : decode cL_areAlike 18 = .ok (.istore 4, 2) := by decide +kernel
theorem dL_areAlike_20 : decode cL_areAlike 20 = .ok (.iload 4, 2) := by decide +kernel
theorem dL_areAlike_22 : decode cL_areAlike 22 = .ok (.bipush 8, 2) := by decide +kernel
theorem dL_areAlike_24 : decode cL_areAlike 24 = .ok (.if_icmp .ge 91, 3) := by decide +kernel
theorem dL_areAlike_27 : decode cL_areAlike 27 = .ok (.iload_n 3, 1) := by decide +kernel
theorem dL_areAlike_28 : decode cL_areAlike 28 = .ok (.ifCond .eq 87, 3) := by decide +kernel
theorem dL_areAlike_31 : decode cL_areAlike 31 = .ok (.aload_n 0, 1) := by decide +kernel
theorem dL_areAlike_32 : decode cL_areAlike 32 = .ok (.iload 4, 2) := by decide +kernel
theorem dL_areAlike_34 : decode cL_areAlike 34 = .ok (.invokevirtual 134, 3) := by decide +kernel
theorem dL_areAlike_37 : decode cL_areAlike 37 = .ok (.aload_n 1, 1) := by decide +kernel
theorem dL_areAlike_38 : decode cL_areAlike 38 = .ok (.iload 4, 2) := by decide +kernel
theorem dL_areAlike_40 : decode cL_areAlike 40 = .ok (.invokevirtual 134, 3) := by decide +kernel
theorem dL_areAlike_43 : decode cL_areAlike 43 = .ok (.if_icmp .ne 64, 3) := by decide +kernel
theorem dL_areAlike_46 : decode cL_areAlike 46 = .ok (.aload_n 0, 1) := by decide +kernel
theorem dL_areAlike_47 : decode cL_areAlike 47 = .ok (.iload 4, 2) := by decide +kernel
theorem dL_areAlike_49 : decode cL_areAlike 49 = .ok (.iload 4, 2) := by decide +kernel
theorem dL_areAlike_51 : decode cL_areAlike 51 = .ok (.invokevirtual 137, 3) := by decide +kernel
theorem dL_areAlike_54 : decode cL_areAlike 54 = .ok (.aload_n 1, 1) := by decide +kernel
theorem dL_areAlike_55 : decode cL_areAlike 55 = .ok (.iload 4, 2) := by decide +kernel
theorem dL_areAlike_57 : decode cL_areAlike 57 = .ok (.iload 4, 2) := by decide +kernel
theorem dL_areAlike_59 : decode cL_areAlike 59 = .ok (.invokevirtual 137, 3) := by decide +kernel
theorem dL_areAlike_62 : decode cL_areAlike 62 = .ok (.if_icmp .ne 45, 3) := by decide +kernel
theorem dL_areAlike_65 : decode cL_areAlike 65 = .ok (.aload_n 0, 1) := by decide +kernel
theorem dL_areAlike_66 : decode cL_areAlike 66 = .ok (.iload 4, 2) := by decide +kernel
theorem dL_areAlike_68 : decode cL_areAlike 68 = .ok (.iload 4, 2) := by decide +kernel
theorem dL_areAlike_70 : decode cL_areAlike 70 = .ok (.invokevirtual 140, 3) := by decide +kernel
theorem dL_areAlike_73 : decode cL_areAlike 73 = .ok (.aload_n 1, 1) := by decide +kernel
theorem dL_areAlike_74 : decode cL_areAlike 74 = .ok (.iload 4, 2) := by decide +kernel
theorem dL_areAlike_76 : decode cL_areAlike 76 = .ok (.iload 4, 2) := by decide +kernel
theorem dL_areAlike_78 : decode cL_areAlike 78 = .ok (.invokevirtual 140, 3) := by decide +kernel
theorem dL_areAlike_81 : decode cL_areAlike 81 = .ok (.if_icmp .ne 26, 3) := by decide +kernel
theorem dL_areAlike_84 : decode cL_areAlike 84 = .ok (.aload_n 0, 1) := by decide +kernel
theorem dL_areAlike_85 : decode cL_areAlike 85 = .ok (.iload 4, 2) := by decide +kernel
theorem dL_areAlike_87 : decode cL_areAlike 87 = .ok (.iload 4, 2) := by decide +kernel
theorem dL_areAlike_89 : decode cL_areAlike 89 = .ok (.invokevirtual 144, 3) := by decide +kernel
theorem dL_areAlike_92 : decode cL_areAlike 92 = .ok (.aload_n 1, 1) := by decide +kernel
theorem dL_areAlike_93 : decode cL_areAlike 93 = .ok (.iload 4, 2) := by decide +kernel
theorem dL_areAlike_95 : decode cL_areAlike 95 = .ok (.iload 4, 2) := by decide +kernel
theorem dL_areAlike_97 : decode cL_areAlike 97 = .ok (.invokevirtual 144, 3) := by decide +kernel
theorem dL_areAlike_100 : decode cL_areAlike 100 = .ok (.if_icmp .ne 7, 3) := by decide +kernel
theorem dL_areAlike_103 : decode cL_areAlike 103 = .ok (.iconst 1, 1) := by decide +kernel
theorem dL_areAlike_104 : decode cL_areAlike 104 = .ok (.goto 4, 3) := by decide +kernel
theorem dL_areAlike_107 : decode cL_areAlike 107 = .ok (.iconst 0, 1) := by decide +kernel
theorem dL_areAlike_108 : decode cL_areAlike 108 = .ok (.istore_n 3, 1) := by decide +kernel
theorem dL_areAlike_109 : decode cL_areAlike 109 = .ok (.iinc 4 1, 3) := by decide +kernel
theorem dL_areAlike_112 : decode cL_areAlike 112 = .ok (.goto (-92), 3) := by decide +kernel
theorem dL_areAlike_115 : decode cL_areAlike 115 = .ok (.iconst 0, 1) := by decide +kernel
theorem dL_areAlike_116 : decode cL_areAlike 116 = .ok (.istore 4, 2) := by decide +kernel
theorem dL_areAlike_118 : decode cL_areAlike 118 = .ok (.iload 4, 2) := by decide +kernel
theorem dL_areAlike_120 : decode cL_areAlike 120 = .ok (.bipush 6, 2) := by decide +kernel
theorem dL_areAlike_122 : decode cL_areAlike 122 = .ok (.if_icmp .ge 104, 3) := by decide +kernel
theorem dL_areAlike_125 : decode cL_areAlike 125 = .ok (.iload_n 3, 1) := by decide +kernel
theorem dL_areAlike_126 : decode cL_areAlike 126 = .ok (.ifCond .eq 100, 3) := by decide +kernel
theorem dL_areAlike_129 : decode cL_areAlike 129 = .ok (.iload_n 2, 1) := by decide +kernel
theorem dL_areAlike_130 : decode cL_areAlike 130 = .ok (.iconst 2, 1) := by decide +kernel
theorem dL_areAlike_131 : decode cL_areAlike 131 = .ok (.iload 4, 2) := by decide +kernel
theorem dL_areAlike_133 : decode cL_areAlike 133 = .ok (.imul, 1) := by decide +kernel
theorem dL_areAlike_134 : decode cL_areAlike 134 = .ok (.ishr, 1) := by decide +kernel
theorem dL_areAlike_135 : decode cL_areAlike 135 = .ok (.bipush 20, 2) := by decide +kernel
theorem dL_areAlike_137 : decode cL_areAlike 137 = .ok (.invokestatic 80, 3) := by decide +kernel
theorem dL_areAlike_140 : decode cL_areAlike 140 = .ok (.istore 5, 2) := by decide +kernel
theorem dL_areAlike_142 : decode cL_areAlike 142 = .ok (.aload_n 0, 1) := by decide +kernel
theorem dL_areAlike_143 : decode cL_areAlike 143 = .ok (.iload 4, 2) := by decide +kernel
theorem dL_areAlike_145 : decode cL_areAlike 145 = .ok (.invokevirtual 77, 3) := by decide +kernel
theorem dL_areAlike_148 : decode cL_areAlike 148 = .ok (.aload_n 1, 1) := by decide +kernel
theorem dL_areAlike_149 : decode cL_areAlike 149 = .ok (.iload 4, 2) := by decide +kernel
theorem dL_areAlike_151 : decode cL_areAlike 151 = .ok (.invokevirtual 77, 3) := by decide +kernel
theorem dL_areAlike_154 : decode cL_areAlike 154 = .ok (.if_icmp .ne 64, 3) := by decide +kernel
theorem dL_areAlike_157 : decode cL_areAlike 157 = .ok (.aload_n 0, 1) := by decide +kernel
theorem dL_areAlike_158 : decode cL_areAlike 158 = .ok (.iload 4, 2) := by decide +kernel
theorem dL_areAlike_160 : decode cL_areAlike 160 = .ok (.iload 5, 2) := by decide +kernel
theorem dL_areAlike_162 : decode cL_areAlike 162 = .ok (.invokevirtual 147, 3) := by decide +kernel
theorem dL_areAlike_165 : decode cL_areAlike 165 = .ok (.aload_n 1, 1) := by decide +kernel
theorem dL_areAlike_166 : decode cL_areAlike 166 = .ok (.iload 4, 2) := by decide +kernel
theorem dL_areAlike_168 : decode cL_areAlike 168 = .ok (.iload 5, 2) := by decide +kernel
theorem dL_areAlike_170 : decode cL_areAlike 170 = .ok (.invokevirtual 147, 3) := by decide +kernel
theorem dL_areAlike_173 : decode cL_areAlike 173 = .ok (.if_icmp .ne 45, 3) := by decide +kernel
theorem dL_areAlike_176 : decode cL_areAlike 176 = .ok (.aload_n 0, 1) := by decide +kernel
theorem dL_areAlike_177 : decode cL_areAlike 177 = .ok (.iload 4, 2) := by decide +kernel
theorem dL_areAlike_179 : decode cL_areAlike 179 = .ok (.iload 5, 2) := by decide +kernel
theorem dL_areAlike_181 : decode cL_areAlike 181 = .ok (.invokevirtual 150, 3) := by decide +kernel
theorem dL_areAlike_184 : decode cL_areAlike 184 = .ok (.aload_n 1, 1) := by decide +kernel
theorem dL_areAlike_185 : decode cL_areAlike 185 = .ok (.iload 4, 2) := by decide +kernel
theorem dL_areAlike_187 : decode cL_areAlike 187 = .ok (.iload 5, 2) := by decide +kernel
theorem dL_areAlike_189 : decode cL_areAlike 189 = .ok (.invokevirtual 150, 3) := by decide +kernel
theorem dL_areAlike_192 : decode cL_areAlike 192 = .ok (.if_icmp .ne 26, 3) := by decide +kernel
theorem dL_areAlike_195 : decode cL_areAlike 195 = .ok (.aload_n 0, 1) := by decide +kernel
theorem dL_areAlike_196 : decode cL_areAlike 196 = .ok (.iload 4, 2) := by decide +kernel
theorem dL_areAlike_198 : decode cL_areAlike 198 = .ok (.iload 5, 2) := by decide +kernel
theorem dL_areAlike_200 : decode cL_areAlike 200 = .ok (.invokevirtual 153, 3) := by decide +kernel
theorem dL_areAlike_203 : decode cL_areAlike 203 = .ok (.aload_n 1, 1) := by decide +kernel
theorem dL_areAlike_204 : decode cL_areAlike 204 = .ok (.iload 4, 2) := by decide +kernel
theorem dL_areAlike_206 : decode cL_areAlike 206 = .ok (.iload 5, 2) := by decide +kernel
theorem dL_areAlike_208 : decode cL_areAlike 208 = .ok (.invokevirtual 153, 3) := by decide +kernel
theorem dL_areAlike_211 : decode cL_areAlike 211 = .ok (.if_icmp .ne 7, 3) := by decide +kernel
theorem dL_areAlike_214 : decode cL_areAlike 214 = .ok (.iconst 1, 1) := by decide +kernel
theorem dL_areAlike_215 : decode cL_areAlike 215 = .ok (.goto 4, 3) := by decide +kernel
theorem dL_areAlike_218 : decode cL_areAlike 218 = .ok (.iconst 0, 1) := by decide +kernel
theorem dL_areAlike_219 : decode cL_areAlike 219 = .ok (.istore_n 3, 1) := by decide +kernel
theorem dL_areAlike_220 : decode cL_areAlike 220 = .ok (.iinc 4 1, 3) := by decide +kernel
theorem dL_areAlike_223 : decode cL_areAlike 223 = .ok (.goto (-105), 3) := by decide +kernel
theorem dL_areAlike_226 : decode cL_areAlike 226 = .ok (.iload_n 3, 1) := by decide +kernel
theorem dL_areAlike_227 : decode cL_areAlike 227 = .ok (.ireturn, 1) := by decide +kernel
theorem dL_isFlagSo_0 : decode cL_isFlagSo 0 = .ok (.iconst 0, 1) := by decide +kernel
theorem dL_isFlagSo_1 : decode cL_isFlagSo 1 = .ok (.istore_n 2, 1) := by decide +kernel
theorem dL_isFlagSo_2 : decode cL_isFlagSo 2 = .ok (.iconst 0, 1) := by decide +kernel
theorem dL_isFlagSo_3 : decode cL_isFlagSo 3 = .ok (.istore_n 3, 1) := by decide +kernel
theorem dL_isFlagSo_4 : decode cL_isFlagSo 4 = .ok (.iload_n 3, 1) := by decide +kernel
theorem dL_isFlagSo_5 : decode cL_isFlagSo 5 = .ok (.iconst 4, 1) := by decide +kernel
theorem dL_isFlagSo_6 : decode cL_isFlagSo 6 = .ok (.if_icmp .ge 18, 3) := by decide +kernel
theorem dL_isFlagSo_9 : decode cL_isFlagSo 9 = .ok (.iload_n 2, 1) := by decide +kernel
theorem dL_isFlagSo_10 : decode cL_isFlagSo 10 = .ok (.aload_n 0, 1) := by decide +kernel
theorem dL_isFlagSo_11 : decode cL_isFlagSo 11 = .ok (.iload_n 1, 1) := by decide +kernel
theorem dL_isFlagSo_12 : decode cL_isFlagSo 12 = .ok (.iload_n 3, 1) := by decide +kernel
theorem dL_isFlagSo_13 : decode cL_isFlagSo 13 = .ok (.invokevirtual 156, 3) := by decide +kernel
theorem dL_isFlagSo_16 : decode cL_isFlagSo 16 = .ok (.iadd, 1) := by decide +kernel
theorem dL_isFlagSo_17 : decode cL_isFlagSo 17 = .ok (.istore_n 2, 1) := by decide +kernel
theorem dL_isFlagSo_18 : decode cL_isFlagSo 18 = .ok (.iinc 3 1, 3) := by decide +kernel
theorem dL_isFlagSo_21 : decode cL_isFlagSo 21 = .ok (.goto (-17), 3) := by decide +kernel
theorem dL_isFlagSo_24 : decode cL_isFlagSo 24 = .ok (.iconst 0, 1) := by decide +kernel
theorem dL_isFlagSo_25 : decode cL_isFlagSo 25 = .ok (.istore_n 3, 1) := by decide +kernel
theorem dL_isFlagSo_26 : decode cL_isFlagSo 26 = .ok (.iload_n 3, 1) := by decide +kernel
theorem dL_isFlagSo_27 : decode cL_isFlagSo 27 = .ok (.bipush 20, 2) := by decide +kernel
theorem dL_isFlagSo_29 : decode cL_isFlagSo 29 = .ok (.if_icmp .ge 117, 3) := by decide +kernel
theorem dL_isFlagSo_32 : decode cL_isFlagSo 32 = .ok (.aload_n 0, 1) := by decide +kernel
theorem dL_isFlagSo_33 : decode cL_isFlagSo 33 = .ok (.iload_n 3, 1) := by decide +kernel
theorem dL_isFlagSo_34 : decode cL_isFlagSo 34 = .ok (.iload_n 1, 1) := by decide +kernel
theorem dL_isFlagSo_35 : decode cL_isFlagSo 35 = .ok (.invokevirtual 137, 3) := by decide +kernel
theorem dL_isFlagSo_38 : decode cL_isFlagSo 38 = .ok (.istore 4, 2) := by decide +kernel
theorem dL_isFlagSo_40 : decode cL_isFlagSo 40 = .ok (.aload_n 0, 1) := by decide +kernel
theorem dL_isFlagSo_41 : decode cL_isFlagSo 41 = .ok (.iload_n 3, 1) := by decide +kernel
theorem dL_isFlagSo_42 : decode cL_isFlagSo 42 = .ok (.iload_n 1, 1) := by decide +kernel
theorem dL_isFlagSo_43 : decode cL_isFlagSo 43 = .ok (.invokevirtual 159, 3) := by decide +kernel
theorem dL_isFlagSo_46 : decode cL_isFlagSo 46 = .ok (.istore 5, 2) := by decide +kernel
theorem dL_isFlagSo_48 : decode cL_isFlagSo 48 = .ok (.aload_n 0, 1) := by decide +kernel
theorem dL_isFlagSo_49 : decode cL_isFlagSo 49 = .ok (.iload_n 3, 1) := by decide +kernel
theorem dL_isFlagSo_50 : decode cL_isFlagSo 50 = .ok (.iload_n 1, 1) := by decide +kernel
theorem dL_isFlagSo_51 : decode cL_isFlagSo 51 = .ok (.invokevirtual 144, 3) := by decide +kernel
theorem dL_isFlagSo_54 : decode cL_isFlagSo 54 = .ok (.istore 6, 2) := by decide +kernel
theorem dL_isFlagSo_56 : decode cL_isFlagSo 56 = .ok (.iload 4, 2) := by decide +kernel
theorem dL_isFlagSo_58 : decode cL_isFlagSo 58 = .ok (.ifCond .lt 52, 3) := by decide +kernel
theorem dL_isFlagSo_61 : decode cL_isFlagSo 61 = .ok (.iload 4, 2) := by decide +kernel
theorem dL_isFlagSo_63 : decode cL_isFlagSo 63 = .ok (.iconst 4, 1) := by decide +kernel
theorem dL_isFlagSo_64 : decode cL_isFlagSo 64 = .ok (.if_icmp .ge 46, 3) := by decide +kernel
theorem dL_isFlagSo_67 : decode cL_isFlagSo 67 = .ok (.aload_n 0, 1) := by decide +kernel
theorem dL_isFlagSo_68 : decode cL_isFlagSo 68 = .ok (.iload_n 3, 1) := by decide +kernel
theorem dL_isFlagSo_69 : decode cL_isFlagSo 69 = .ok (.iload_n 1, 1) := by decide +kernel
theorem dL_isFlagSo_70 : decode cL_isFlagSo 70 = .ok (.invokevirtual 162, 3) := by decide +kernel
theorem dL_isFlagSo_73 : decode cL_isFlagSo 73 = .ok (.iload 4, 2) := by decide +kernel
theorem dL_isFlagSo_75 : decode cL_isFlagSo 75 = .ok (.if_icmp .ne 35, 3) := by decide +kernel
theorem dL_isFlagSo_78 : decode cL_isFlagSo 78 = .ok (.iload 5, 2) := by decide +kernel
theorem dL_isFlagSo_80 : decode cL_isFlagSo 80 = .ok (.iconst (-1), 1) := by decide +kernel
theorem dL_isFlagSo_81 : decode cL_isFlagSo 81 = .ok (.if_icmp .lt 29, 3) := by decide +kernel
theorem dL_isFlagSo_84 : decode cL_isFlagSo 84 = .ok (.iload 5, 2) := by decide +kernel
theorem dL_isFlagSo_86 : decode cL_isFlagSo 86 = .ok (.aload_n 0, 1) := by decide +kernel
theorem dL_isFlagSo_87 : decode cL_isFlagSo 87 = .ok (.iload_n 1, 1) := by decide +kernel
theorem dL_isFlagSo_88 : decode cL_isFlagSo 88 = .ok (.invokevirtual 134, 3) := by decide +kernel
theorem dL_isFlagSo_91 : decode cL_isFlagSo 91 = .ok (.if_icmp .ge 19, 3) := by decide +kernel
theorem dL_isFlagSo_94 : decode cL_isFlagSo 94 = .ok (.iload 6, 2) := by decide +kernel
theorem dL_isFlagSo_96 : decode cL_isFlagSo 96 = .ok (.iconst (-1), 1) := by decide +kernel
theorem dL_isFlagSo_97 : decode cL_isFlagSo 97 = .ok (.if_icmp .lt 13, 3) := by decide +kernel
theorem dL_isFlagSo_100 : decode cL_isFlagSo 100 = .ok (.iload 6, 2) := by decide +kernel
theorem dL_isFlagSo_102 : decode cL_isFlagSo 102 = .ok (.iconst 4, 1) := by decide +kernel
theorem dL_isFlagSo_103 : decode cL_isFlagSo 103 = .ok (.if_icmp .ge 7, 3) := by decide +kernel
theorem dL_isFlagSo_106 : decode cL_isFlagSo 106 = .ok (.iconst 1, 1) := by decide +kernel
theorem dL_isFlagSo_107 : decode cL_isFlagSo 107 = .ok (.goto 4, 3) := by decide +kernel
theorem dL_isFlagSo_110 : decode cL_isFlagSo 110 = .ok (.iconst 0, 1) := by decide +kernel
theorem dL_isFlagSo_111 : decode cL_isFlagSo 111 = .ok (.istore 7, 2) := by decide +kernel
theorem dL_isFlagSo_113 : decode cL_isFlagSo 113 = .ok (.iload 7, 2) := by decide +kernel
theorem dL_isFlagSo_115 : decode cL_isFlagSo 115 = .ok (.ifCond .eq 23, 3) := by decide +kernel
theorem dL_isFlagSo_118 : decode cL_isFlagSo 118 = .ok (.iload 5, 2) := by decide +kernel
theorem dL_isFlagSo_120 : decode cL_isFlagSo 120 = .ok (.iconst (-1), 1) := by decide +kernel
theorem dL_isFlagSo_121 : decode cL_isFlagSo 121 = .ok (.if_icmp .ne 19, 3) := by decide +kernel
theorem dL_isFlagSo_124 : decode cL_isFlagSo 124 = .ok (.aload_n 0, 1) := by decide +kernel
theorem dL_isFlagSo_125 : decode cL_isFlagSo 125 = .ok (.iload_n 3, 1) := by decide +kernel
theorem dL_isFlagSo_126 : decode cL_isFlagSo 126 = .ok (.iload_n 1, 1) := by decide +kernel
theorem dL_isFlagSo_127 : decode cL_isFlagSo 127 = .ok (.invokevirtual 140, 3) := by decide +kernel
theorem dL_isFlagSo_130 : decode cL_isFlagSo 130 = .ok (.ifCond .ne 10, 3) := by decide +kernel
theorem dL_isFlagSo_133 : decode cL_isFlagSo 133 = .ok (.iload 4, 2) := by decide +kernel
theorem dL_isFlagSo_135 : decode cL_isFlagSo 135 = .ok (.ifCond .eq 5, 3) := by decide +kernel
theorem dL_isFlagSo_138 : decode cL_isFlagSo 138 = .ok (.iconst 0, 1) := by decide +kernel
theorem dL_isFlagSo_139 : decode cL_isFlagSo 139 = .ok (.ireturn, 1) := by decide +kernel
theorem dL_isFlagSo_140 : decode cL_isFlagSo 140 = .ok (.iinc 3 1, 3) := by decide +kernel
theorem dL_isFlagSo_143 : decode cL_isFlagSo 143 = .ok (.goto (-117), 3) := by decide +kernel
theorem dL_isFlagSo_146 : decode cL_isFlagSo 146 = .ok (.iload_n 2, 1) := by decide +kernel
theorem dL_isFlagSo_147 : decode cL_isFlagSo 147 = .ok (.bipush 20, 2) := by decide +kernel
theorem dL_isFlagSo_149 : decode cL_isFlagSo 149 = .ok (.if_icmp .ne 16, 3) := by decide +kernel
theorem dL_isFlagSo_152 : decode cL_isFlagSo 152 = .ok (.aload_n 0, 1) := by decide +kernel
theorem dL_isFlagSo_153 : decode cL_isFlagSo 153 = .ok (.iload_n 1, 1) := by decide +kernel
theorem dL_isFlagSo_154 : decode cL_isFlagSo 154 = .ok (.invokevirtual 134, 3) := by decide +kernel
theorem dL_isFlagSo_157 : decode cL_isFlagSo 157 = .ok (.iconst 5, 1) := by decide +kernel
theorem dL_isFlagSo_158 : decode cL_isFlagSo 158 = .ok (.if_icmp .gt 7, 3) := by decide +kernel
theorem dL_isFlagSo_161 : decode cL_isFlagSo 161 = .ok (.iconst 1, 1) := by decide +kernel
theorem dL_isFlagSo_162 : decode cL_isFlagSo 162 = .ok (.goto 4, 3) := by decide +kernel
theorem dL_isFlagSo_165 : decode cL_isFlagSo 165 = .ok (.iconst 0, 1) := by decide +kernel
theorem dL_isFlagSo_166 : decode cL_isFlagSo 166 = .ok (.ireturn, 1) := by decide +kernel
theorem dL_isTrialSo_0 : decode cL_isTrialSo 0 = .ok (.iconst 0, 1) := by decide +kernel
theorem dL_isTrialSo_1 : decode cL_isTrialSo 1 = .ok (.istore_n 2, 1) := by decide +kernel
theorem dL_isTrialSo_2 : decode cL_isTrialSo 2 = .ok (.iload_n 2, 1) := by decide +kernel
theorem dL_isTrialSo_3 : decode cL_isTrialSo 3 = .ok (.bipush 20, 2) := by decide +kernel
theorem dL_isTrialSo_5 : decode cL_isTrialSo 5 = .ok (.if_icmp .ge 47, 3) := by decide +kernel
theorem dL_isTrialSo_8 : decode cL_isTrialSo 8 = .ok (.aload_n 0, 1) := by decide +kernel
theorem dL_isTrialSo_9 : decode cL_isTrialSo 9 = .ok (.iload_n 1, 1) := by decide +kernel
theorem dL_isTrialSo_10 : decode cL_isTrialSo 10 = .ok (.iload_n 2, 1) := by decide +kernel
theorem dL_isTrialSo_11 : decode cL_isTrialSo 11 = .ok (.invokevirtual 153, 3) := by decide +kernel
theorem dL_isTrialSo_14 : decode cL_isTrialSo 14 = .ok (.istore_n 3, 1) := by decide +kernel
theorem dL_isTrialSo_15 : decode cL_isTrialSo 15 = .ok (.aload_n 0, 1) := by decide +kernel
theorem dL_isTrialSo_16 : decode cL_isTrialSo 16 = .ok (.iload_n 1, 1) := by decide +kernel
theorem dL_isTrialSo_17 : decode cL_isTrialSo 17 = .ok (.iload_n 2, 1) := by decide +kernel
theorem dL_isTrialSo_18 : decode cL_isTrialSo 18 = .ok (.invokevirtual 150, 3) := by decide +kernel
theorem dL_isTrialSo_21 : decode cL_isTrialSo 21 = .ok (.istore 4, 2) := by decide +kernel
theorem dL_isTrialSo_23 : decode cL_isTrialSo 23 = .ok (.iload_n 3, 1) := by decide +kernel
theorem dL_isTrialSo_24 : decode cL_isTrialSo 24 = .ok (.ifCond .lt 20, 3) := by decide +kernel
theorem dL_isTrialSo_27 : decode cL_isTrialSo 27 = .ok (.iload_n 3, 1) := by decide +kernel
theorem dL_isTrialSo_28 : decode cL_isTrialSo 28 = .ok (.iconst 3, 1) := by decide +kernel
theorem dL_isTrialSo_29 : decode cL_isTrialSo 29 = .ok (.if_icmp .gt 15, 3) := by decide +kernel
theorem dL_isTrialSo_32 : decode cL_isTrialSo 32 = .ok (.iload 4, 2) := by decide +kernel
theorem dL_isTrialSo_34 : decode cL_isTrialSo 34 = .ok (.iconst (-1), 1) := by decide +kernel
theorem dL_isTrialSo_35 : decode cL_isTrialSo 35 = .ok (.if_icmp .lt 9, 3) := by decide +kernel
theorem dL_isTrialSo_38 : decode cL_isTrialSo 38 = .ok (.iload 4, 2) := by decide +kernel
theorem dL_isTrialSo_40 : decode cL_isTrialSo 40 = .ok (.iconst 3, 1) := by decide +kernel
theorem dL_isTrialSo_41 : decode cL_isTrialSo 41 = .ok (.if_icmp .le 5, 3) := by decide +kernel
theorem dL_isTrialSo_44 : decode cL_isTrialSo 44 = .ok (.iconst 0, 1) := by decide +kernel
theorem dL_isTrialSo_45 : decode cL_isTrialSo 45 = .ok (.ireturn, 1) := by decide +kernel
theorem dL_isTrialSo_46 : decode cL_isTrialSo 46 = .ok (.iinc 2 1, 3) := by decide +kernel
theorem dL_isTrialSo_49 : decode cL_isTrialSo 49 = .ok (.goto (-47), 3) := by decide +kernel
theorem dL_isTrialSo_52 : decode cL_isTrialSo 52 = .ok (.iconst 1, 1) := by decide +kernel
theorem dL_isTrialSo_53 : decode cL_isTrialSo 53 = .ok (.ireturn, 1) := by decide +kernel
theorem dL_isMovedSo_0 : decode cL_isMovedSo 0 = .ok (.aload_n 0, 1) := by decide +kernel
theorem dL_isMovedSo_1 : decode cL_isMovedSo 1 = .ok (.iload_n 1, 1) := by decide +kernel
theorem dL_isMovedSo_2 : decode cL_isMovedSo 2 = .ok (.invokestatic 102, 3) := by decide +kernel
theorem dL_isMovedSo_5 : decode cL_isMovedSo 5 = .ok (.istore_n 2, 1) := by decide +kernel
theorem dL_isMovedSo_6 : decode cL_isMovedSo 6 = .ok (.iload_n 2, 1) := by decide +kernel
theorem dL_isMovedSo_7 : decode cL_isMovedSo 7 = .ok (.ifCond .ge 19, 3) := by decide +kernel
theorem dL_isMovedSo_10 : decode cL_isMovedSo 10 = .ok (.aload_n 0, 1) := by decide +kernel
theorem dL_isMovedSo_11 : decode cL_isMovedSo 11 = .ok (.iload_n 1, 1) := by decide +kernel
theorem dL_isMovedSo_12 : decode cL_isMovedSo 12 = .ok (.invokestatic 99, 3) := by decide +kernel
theorem dL_isMovedSo_15 : decode cL_isMovedSo 15 = .ok (.ldc 16, 2) := by decide +kernel
theorem dL_isMovedSo_17 : decode cL_isMovedSo 17 = .ok (.if_icmp .ne 7, 3) := by decide +kernel
theorem dL_isMovedSo_20 : decode cL_isMovedSo 20 = .ok (.iconst 1, 1) := by decide +kernel
theorem dL_isMovedSo_21 : decode cL_isMovedSo 21 = .ok (.goto 4, 3) := by decide +kernel
theorem dL_isMovedSo_24 : decode cL_isMovedSo 24 = .ok (.iconst 0, 1) := by decide +kernel
theorem dL_isMovedSo_25 : decode cL_isMovedSo 25 = .ok (.ireturn, 1) := by decide +kernel
theorem dL_isMovedSo_26 : decode cL_isMovedSo 26 = .ok (.iconst 0, 1) := by decide +kernel
theorem dL_isMovedSo_27 : decode cL_isMovedSo 27 = .ok (.istore_n 3, 1) := by decide +kernel
theorem dL_isMovedSo_28 : decode cL_isMovedSo 28 = .ok (.lconst 0, 1) := by decide +kernel
theorem dL_isMovedSo_29 : decode cL_isMovedSo 29 = .ok (.lstore 4, 2) := by decide +kernel
theorem dL_isMovedSo_31 : decode cL_isMovedSo 31 = .ok (.lconst 0, 1) := by decide +kernel
theorem dL_isMovedSo_32 : decode cL_isMovedSo 32 = .ok (.lstore 6, 2) := by decide +kernel
theorem dL_isMovedSo_34 : decode cL_isMovedSo 34 = .ok (.iconst 0, 1) := by decide +kernel
theorem dL_isMovedSo_35 : decode cL_isMovedSo 35 = .ok (.istore 8, 2) := by decide +kernel
theorem dL_isMovedSo_37 : decode cL_isMovedSo 37 = .ok (.iload 8, 2) := by decide +kernel
theorem dL_isMovedSo_39 : decode cL_isMovedSo 39 = .ok (.bipush 31, 2) := by decide +kernel
theorem dL_isMovedSo_41 : decode cL_isMovedSo 41 = .ok (.if_icmp .ge 34, 3) := by decide +kernel
theorem dL_isMovedSo_44 : decode cL_isMovedSo 44 = .ok (.lload 4, 2) := by decide +kernel
theorem dL_isMovedSo_46 : decode cL_isMovedSo 46 = .ok (.aload_n 0, 1) := by decide +kernel
theorem dL_isMovedSo_47 : decode cL_isMovedSo 47 = .ok (.iload 8, 2) := by decide +kernel
theorem dL_isMovedSo_49 : decode cL_isMovedSo 49 = .ok (.bipush 8, 2) := by decide +kernel
theorem dL_isMovedSo_51 : decode cL_isMovedSo 51 = .ok (.idiv, 1) := by decide +kernel
theorem dL_isMovedSo_52 : decode cL_isMovedSo 52 = .ok (.iload 8, 2) := by decide +kernel
theorem dL_isMovedSo_54 : decode cL_isMovedSo 54 = .ok (.bipush 8, 2) := by decide +kernel
theorem dL_isMovedSo_56 : decode cL_isMovedSo 56 = .ok (.irem, 1) := by decide +kernel
theorem dL_isMovedSo_57 : decode cL_isMovedSo 57 = .ok (.invokevirtual 137, 3) := by decide +kernel
theorem dL_isMovedSo_60 : decode cL_isMovedSo 60 = .ok (.i2l, 1) := by decide +kernel
theorem dL_isMovedSo_61 : decode cL_isMovedSo 61 = .ok (.iconst 2, 1) := by decide +kernel
theorem dL_isMovedSo_62 : decode cL_isMovedSo 62 = .ok (.iload 8, 2) := by decide +kernel
theorem dL_isMovedSo_64 : decode cL_isMovedSo 64 = .ok (.imul, 1) := by decide +kernel
theorem dL_isMovedSo_65 : decode cL_isMovedSo 65 = .ok (.lshl, 1) := by decide +kernel
theorem dL_isMovedSo_66 : decode cL_isMovedSo 66 = .ok (.lor, 1) := by decide +kernel
theorem dL_isMovedSo_67 : decode cL_isMovedSo 67 = .ok (.lstore 4, 2) := by decide +kernel
theorem dL_isMovedSo_69 : decode cL_isMovedSo 69 = .ok (.iinc 8 1, 3) := by decide +kernel
theorem dL_isMovedSo_72 : decode cL_isMovedSo 72 = .ok (.goto (-35), 3) := by decide +kernel
theorem dL_isMovedSo_75 : decode cL_isMovedSo 75 = .ok (.aload_n 0, 1) := by decide +kernel
theorem dL_isMovedSo_76 : decode cL_isMovedSo 76 = .ok (.iload_n 1, 1) := by decide +kernel
theorem dL_isMovedSo_77 : decode cL_isMovedSo 77 = .ok (.invokevirtual 30, 3) := by decide +kernel
theorem dL_isMovedSo_80 : decode cL_isMovedSo 80 = .ok (.istore 8, 2) := by decide +kernel
theorem dL_isMovedSo_82 : decode cL_isMovedSo 82 = .ok (.iconst 0, 1) := by decide +kernel
theorem dL_isMovedSo_83 : decode cL_isMovedSo 83 = .ok (.istore 9, 2) := by decide +kernel
theorem dL_isMovedSo_85 : decode cL_isMovedSo 85 = .ok (.iload 9, 2) := by decide +kernel
theorem dL_isMovedSo_87 : decode cL_isMovedSo 87 = .ok (.bipush 31, 2) := by decide +kernel
theorem dL_isMovedSo_89 : decode cL_isMovedSo 89 = .ok (.if_icmp .ge 34, 3) := by decide +kernel
theorem dL_isMovedSo_92 : decode cL_isMovedSo 92 = .ok (.lload 6, 2) := by decide +kernel
theorem dL_isMovedSo_94 : decode cL_isMovedSo 94 = .ok (.aload_n 0, 1) := by decide +kernel
theorem dL_isMovedSo_95 : decode cL_isMovedSo 95 = .ok (.iload 9, 2) := by decide +kernel
theorem dL_isMovedSo_97 : decode cL_isMovedSo 97 = .ok (.bipush 8, 2) := by decide +kernel
theorem dL_isMovedSo_99 : decode cL_isMovedSo 99 = .ok (.idiv, 1) := by decide +kernel
theorem dL_isMovedSo_100 : decode cL_isMovedSo 100 = .ok (.iload 9, 2) := by decide +kernel
theorem dL_isMovedSo_102 : decode cL_isMovedSo 102 = .ok (.bipush 8, 2) := by decide +kernel
theorem dL_isMovedSo_104 : decode cL_isMovedSo 104 = .ok (.irem, 1) := by decide +kernel
theorem dL_isMovedSo_105 : decode cL_isMovedSo 105 = .ok (.invokevirtual 137, 3) := by decide +kernel
theorem dL_isMovedSo_108 : decode cL_isMovedSo 108 = .ok (.i2l, 1) := by decide +kernel
theorem dL_isMovedSo_109 : decode cL_isMovedSo 109 = .ok (.iconst 2, 1) := by decide +kernel
theorem dL_isMovedSo_110 : decode cL_isMovedSo 110 = .ok (.iload 9, 2) := by decide +kernel
theorem dL_isMovedSo_112 : decode cL_isMovedSo 112 = .ok (.imul, 1) := by decide +kernel
theorem dL_isMovedSo_113 : decode cL_isMovedSo 113 = .ok (.lshl, 1) := by decide +kernel
theorem dL_isMovedSo_114 : decode cL_isMovedSo 114 = .ok (.lor, 1) := by decide +kernel
theorem dL_isMovedSo_115 : decode cL_isMovedSo 115 = .ok (.lstore 6, 2) := by decide +kernel
theorem dL_isMovedSo_117 : decode cL_isMovedSo 117 = .ok (.iinc 9 1, 3) := by decide +kernel
theorem dL_isMovedSo_120 : decode cL_isMovedSo 120 = .ok (.goto (-35), 3) := by decide +kernel
theorem dL_isMovedSo_123 : decode cL_isMovedSo 123 = .ok (.iconst 0, 1) := by decide +kernel
theorem dL_isMovedSo_124 : decode cL_isMovedSo 124 = .ok (.istore 9, 2) := by decide +kernel
theorem dL_isMovedSo_126 : decode cL_isMovedSo 126 = .ok (.iload 9, 2) := by decide +kernel
theorem dL_isMovedSo_128 : decode cL_isMovedSo 128 = .ok (.iconst 4, 1) := by decide +kernel
theorem dL_isMovedSo_129 : decode cL_isMovedSo 129 = .ok (.if_icmp .ge 45, 3) := by decide +kernel
theorem dL_isMovedSo_132 : decode cL_isMovedSo 132 = .ok (.iload_n 3, 1) := by decide +kernel
theorem dL_isMovedSo_133 : decode cL_isMovedSo 133 = .ok (.lload 4, 2) := by decide +kernel
theorem dL_isMovedSo_135 : decode cL_isMovedSo 135 = .ok (.bipush 16, 2) := by decide +kernel
theorem dL_isMovedSo_137 : decode cL_isMovedSo 137 = .ok (.iload 9, 2) := by decide +kernel
theorem dL_isMovedSo_139 : decode cL_isMovedSo 139 = .ok (.imul, 1) := by decide +kernel
theorem dL_isMovedSo_140 : decode cL_isMovedSo 140 = .ok (.lshr, 1) := by decide +kernel
theorem dL_isMovedSo_141 : decode cL_isMovedSo 141 = .ok (.ldc2_w 165, 3) := by decide +kernel
theorem dL_isMovedSo_144 : decode cL_isMovedSo 144 = .ok (.land, 1) := by decide +kernel
theorem dL_isMovedSo_145 : decode cL_isMovedSo 145 = .ok (.lload 6, 2) := by decide +kernel
theorem dL_isMovedSo_147 : decode cL_isMovedSo 147 = .ok (.bipush 16, 2) := by decide +kernel
theorem dL_isMovedSo_149 : decode cL_isMovedSo 149 = .ok (.iload 9, 2) := by decide +kernel
theorem dL_isMovedSo_151 : decode cL_isMovedSo 151 = .ok (.imul, 1) := by decide +kernel
theorem dL_isMovedSo_152 : decode cL_isMovedSo 152 = .ok (.lshr, 1) := by decide +kernel
theorem dL_isMovedSo_153 : decode cL_isMovedSo 153 = .ok (.ldc2_w 165, 3) := by decide +kernel
theorem dL_isMovedSo_156 : decode cL_isMovedSo 156 = .ok (.land, 1) := by decide +kernel
theorem dL_isMovedSo_157 : decode cL_isMovedSo 157 = .ok (.lcmp, 1) := by decide +kernel
theorem dL_isMovedSo_158 : decode cL_isMovedSo 158 = .ok (.ifCond .ne 7, 3) := by decide +kernel
theorem dL_isMovedSo_161 : decode cL_isMovedSo 161 = .ok (.iconst 0, 1) := by decide +kernel
theorem dL_isMovedSo_162 : decode cL_isMovedSo 162 = .ok (.goto 4, 3) := by decide +kernel
theorem dL_isMovedSo_165 : decode cL_isMovedSo 165 = .ok (.iconst 1, 1) := by decide +kernel
theorem dL_isMovedSo_166 : decode cL_isMovedSo 166 = .ok (.iadd, 1) := by decide +kernel
theorem dL_isMovedSo_167 : decode cL_isMovedSo 167 = .ok (.istore_n 3, 1) := by decide +kernel
theorem dL_isMovedSo_168 : decode cL_isMovedSo 168 = .ok (.iinc 9 1, 3) := by decide +kernel
theorem dL_isMovedSo_171 : decode cL_isMovedSo 171 = .ok (.goto (-45), 3) := by decide +kernel
theorem dL_isMovedSo_174 : decode cL_isMovedSo 174 = .ok (.iload_n 3, 1) := by decide +kernel
theorem dL_isMovedSo_175 : decode cL_isMovedSo 175 = .ok (.iload_n 2, 1) := by decide +kernel
theorem dL_isMovedSo_176 : decode cL_isMovedSo 176 = .ok (.if_icmp .gt 41, 3) := by decide +kernel
theorem dL_isMovedSo_179 : decode cL_isMovedSo 179 = .ok (.iload_n 2, 1) := by decide +kernel
theorem dL_isMovedSo_180 : decode cL_isMovedSo 180 = .ok (.bipush 20, 2) := by decide +kernel
theorem dL_isMovedSo_182 : decode cL_isMovedSo 182 = .ok (.if_icmp .gt 35, 3) := by decide +kernel
theorem dL_isMovedSo_185 : decode cL_isMovedSo 185 = .ok (.iload 8, 2) := by decide +kernel
theorem dL_isMovedSo_187 : decode cL_isMovedSo 187 = .ok (.ifCond .lt 30, 3) := by decide +kernel
theorem dL_isMovedSo_190 : decode cL_isMovedSo 190 = .ok (.iload 8, 2) := by decide +kernel
theorem dL_isMovedSo_192 : decode cL_isMovedSo 192 = .ok (.bipush 20, 2) := by decide +kernel
theorem dL_isMovedSo_194 : decode cL_isMovedSo 194 = .ok (.if_icmp .gt 23, 3) := by decide +kernel
theorem dL_isMovedSo_197 : decode cL_isMovedSo 197 = .ok (.aload_n 0, 1) := by decide +kernel
theorem dL_isMovedSo_198 : decode cL_isMovedSo 198 = .ok (.iload_n 1, 1) := by decide +kernel
theorem dL_isMovedSo_199 : decode cL_isMovedSo 199 = .ok (.invokevirtual 30, 3) := by decide +kernel
theorem dL_isMovedSo_202 : decode cL_isMovedSo 202 = .ok (.ifCond .ne 15, 3) := by decide +kernel
theorem dL_isMovedSo_205 : decode cL_isMovedSo 205 = .ok (.aload_n 0, 1) := by decide +kernel
theorem dL_isMovedSo_206 : decode cL_isMovedSo 206 = .ok (.iload_n 1, 1) := by decide +kernel
theorem dL_isMovedSo_207 : decode cL_isMovedSo 207 = .ok (.invokevirtual 34, 3) := by decide +kernel
theorem dL_isMovedSo_210 : decode cL_isMovedSo 210 = .ok (.ifCond .ne 7, 3) := by decide +kernel
theorem dL_isMovedSo_213 : decode cL_isMovedSo 213 = .ok (.iconst 1, 1) := by decide +kernel
theorem dL_isMovedSo_214 : decode cL_isMovedSo 214 = .ok (.goto 4, 3) := by decide +kernel
theorem dL_isMovedSo_217 : decode cL_isMovedSo 217 = .ok (.iconst 0, 1) := by decide +kernel
theorem dL_isMovedSo_218 : decode cL_isMovedSo 218 = .ok (.ireturn, 1) := by decide +kernel
theorem dL_law_0 : decode cL_law 0 = .ok (.new 9, 3) := by decide +kernel
theorem dL_law_3 : decode cL_law 3 = .ok (.dup, 1) := by decide +kernel
theorem dL_law_4 : decode cL_law 4 = .ok (.invokespecial 167, 3) := by decide +kernel
theorem dL_law_7 : decode cL_law 7 = .ok (.astore_n 1, 1) := by decide +kernel
theorem dL_law_8 : decode cL_law 8 = .ok (.new 9, 3) := by decide +kernel
theorem dL_law_11 : decode cL_law 11 = .ok (.dup, 1) := by decide +kernel
theorem dL_law_12 : decode cL_law 12 = .ok (.invokespecial 167, 3) := by decide +kernel
theorem dL_law_15 : decode cL_law 15 = .ok (.astore_n 2, 1) := by decide +kernel
theorem dL_law_16 : decode cL_law 16 = .ok (.iconst 0, 1) := by decide +kernel
theorem dL_law_17 : decode cL_law 17 = .ok (.istore_n 3, 1) := by decide +kernel
theorem dL_law_18 : decode cL_law 18 = .ok (.iload_n 3, 1) := by decide +kernel
theorem dL_law_19 : decode cL_law 19 = .ok (.bipush 100, 2) := by decide +kernel
theorem dL_law_21 : decode cL_law 21 = .ok (.if_icmp .ge 98, 3) := by decide +kernel
theorem dL_law_24 : decode cL_law 24 = .ok (.aload_n 0, 1) := by decide +kernel
theorem dL_law_25 : decode cL_law 25 = .ok (.iload_n 3, 1) := by decide +kernel
theorem dL_law_26 : decode cL_law 26 = .ok (.invokestatic 168, 3) := by decide +kernel
theorem dL_law_29 : decode cL_law 29 = .ok (.istore 4, 2) := by decide +kernel
theorem dL_law_31 : decode cL_law 31 = .ok (.aload_n 1, 1) := by decide +kernel
theorem dL_law_32 : decode cL_law 32 = .ok (.iload 4, 2) := by decide +kernel
theorem dL_law_34 : decode cL_law 34 = .ok (.invokestatic 172, 3) := by decide +kernel
theorem dL_law_37 : decode cL_law 37 = .ok (.istore 5, 2) := by decide +kernel
theorem dL_law_39 : decode cL_law 39 = .ok (.iload 5, 2) := by decide +kernel
theorem dL_law_41 : decode cL_law 41 = .ok (.ldc 16, 2) := by decide +kernel
theorem dL_law_43 : decode cL_law 43 = .ok (.if_icmp .eq 14, 3) := by decide +kernel
theorem dL_law_46 : decode cL_law 46 = .ok (.aload_n 2, 1) := by decide +kernel
theorem dL_law_47 : decode cL_law 47 = .ok (.iload 4, 2) := by decide +kernel
theorem dL_law_49 : decode cL_law 49 = .ok (.invokestatic 172, 3) := by decide +kernel
theorem dL_law_52 : decode cL_law 52 = .ok (.iload 5, 2) := by decide +kernel
theorem dL_law_54 : decode cL_law 54 = .ok (.if_icmp .ne 13, 3) := by decide +kernel
theorem dL_law_57 : decode cL_law 57 = .ok (.aload_n 1, 1) := by decide +kernel
theorem dL_law_58 : decode cL_law 58 = .ok (.aload_n 2, 1) := by decide +kernel
theorem dL_law_59 : decode cL_law 59 = .ok (.iload 4, 2) := by decide +kernel
theorem dL_law_61 : decode cL_law 61 = .ok (.invokestatic 175, 3) := by decide +kernel
theorem dL_law_64 : decode cL_law 64 = .ok (.ifCond .ne 5, 3) := by decide +kernel
theorem dL_law_67 : decode cL_law 67 = .ok (.iconst 0, 1) := by decide +kernel
theorem dL_law_68 : decode cL_law 68 = .ok (.ireturn, 1) := by decide +kernel
theorem dL_law_69 : decode cL_law 69 = .ok (.iload_n 3, 1) := by decide +kernel
theorem dL_law_70 : decode cL_law 70 = .ok (.bipush 10, 2) := by decide +kernel
theorem dL_law_72 : decode cL_law 72 = .ok (.irem, 1) := by decide +kernel
theorem dL_law_73 : decode cL_law 73 = .ok (.bipush 9, 2) := by decide +kernel
theorem dL_law_75 : decode cL_law 75 = .ok (.if_icmp .ne 38, 3) := by decide +kernel
theorem dL_law_78 : decode cL_law 78 = .ok (.aload_n 1, 1) := by decide +kernel
theorem dL_law_79 : decode cL_law 79 = .ok (.iload 4, 2) := by decide +kernel
theorem dL_law_81 : decode cL_law 81 = .ok (.iconst 3, 1) := by decide +kernel
theorem dL_law_82 : decode cL_law 82 = .ok (.ishr, 1) := by decide +kernel
theorem dL_law_83 : decode cL_law 83 = .ok (.bipush 8, 2) := by decide +kernel
theorem dL_law_85 : decode cL_law 85 = .ok (.invokestatic 80, 3) := by decide +kernel
theorem dL_law_88 : decode cL_law 88 = .ok (.invokestatic 179, 3) := by decide +kernel
theorem dL_law_91 : decode cL_law 91 = .ok (.ifCond .eq 20, 3) := by decide +kernel
theorem dL_law_94 : decode cL_law 94 = .ok (.aload_n 1, 1) := by decide +kernel
theorem dL_law_95 : decode cL_law 95 = .ok (.iload 4, 2) := by decide +kernel
theorem dL_law_97 : decode cL_law 97 = .ok (.bipush 6, 2) := by decide +kernel
theorem dL_law_99 : decode cL_law 99 = .ok (.ishr, 1) := by decide +kernel
theorem dL_law_100 : decode cL_law 100 = .ok (.bipush 6, 2) := by decide +kernel
theorem dL_law_102 : decode cL_law 102 = .ok (.invokestatic 80, 3) := by decide +kernel
theorem dL_law_105 : decode cL_law 105 = .ok (.invokestatic 183, 3) := by decide +kernel
theorem dL_law_108 : decode cL_law 108 = .ok (.ifCond .ne 5, 3) := by decide +kernel
theorem dL_law_111 : decode cL_law 111 = .ok (.iconst 0, 1) := by decide +kernel
theorem dL_law_112 : decode cL_law 112 = .ok (.ireturn, 1) := by decide +kernel
theorem dL_law_113 : decode cL_law 113 = .ok (.iinc 3 1, 3) := by decide +kernel
theorem dL_law_116 : decode cL_law 116 = .ok (.goto (-98), 3) := by decide +kernel
theorem dL_law_119 : decode cL_law 119 = .ok (.aload_n 1, 1) := by decide +kernel
theorem dL_law_120 : decode cL_law 120 = .ok (.iconst 0, 1) := by decide +kernel
theorem dL_law_121 : decode cL_law 121 = .ok (.invokestatic 186, 3) := by decide +kernel
theorem dL_law_124 : decode cL_law 124 = .ok (.ifCond .eq 31, 3) := by decide +kernel
theorem dL_law_127 : decode cL_law 127 = .ok (.aload_n 1, 1) := by decide +kernel
theorem dL_law_128 : decode cL_law 128 = .ok (.iconst 1, 1) := by decide +kernel
theorem dL_law_129 : decode cL_law 129 = .ok (.invokestatic 186, 3) := by decide +kernel
theorem dL_law_132 : decode cL_law 132 = .ok (.ifCond .eq 23, 3) := by decide +kernel
theorem dL_law_135 : decode cL_law 135 = .ok (.aload_n 1, 1) := by decide +kernel
theorem dL_law_136 : decode cL_law 136 = .ok (.iconst 0, 1) := by decide +kernel
theorem dL_law_137 : decode cL_law 137 = .ok (.invokestatic 179, 3) := by decide +kernel
theorem dL_law_140 : decode cL_law 140 = .ok (.ifCond .eq 15, 3) := by decide +kernel
theorem dL_law_143 : decode cL_law 143 = .ok (.aload_n 1, 1) := by decide +kernel
theorem dL_law_144 : decode cL_law 144 = .ok (.iconst 1, 1) := by decide +kernel
theorem dL_law_145 : decode cL_law 145 = .ok (.invokestatic 179, 3) := by decide +kernel
theorem dL_law_148 : decode cL_law 148 = .ok (.ifCond .eq 7, 3) := by decide +kernel
theorem dL_law_151 : decode cL_law 151 = .ok (.iconst 1, 1) := by decide +kernel
theorem dL_law_152 : decode cL_law 152 = .ok (.goto 4, 3) := by decide +kernel
theorem dL_law_155 : decode cL_law 155 = .ok (.iconst 0, 1) := by decide +kernel
theorem dL_law_156 : decode cL_law 156 = .ok (.ireturn, 1) := by decide +kernel
theorem dJ6_bitCount_0f7a4_0 : decode cJ6_bitCount_0f7a4 0 = .ok (.iload_n 0, 1) := by decide +kernel
theorem dJ6_bitCount_0f7a4_1 : decode cJ6_bitCount_0f7a4 1 = .ok (.iload_n 0, 1) := by decide +kernel
theorem dJ6_bitCount_0f7a4_2 : decode cJ6_bitCount_0f7a4 2 = .ok (.iconst 1, 1) := by decide +kernel
theorem dJ6_bitCount_0f7a4_3 : decode cJ6_bitCount_0f7a4 3 = .ok (.iushr, 1) := by decide +kernel
theorem dJ6_bitCount_0f7a4_4 : decode cJ6_bitCount_0f7a4 4 = .ok (.ldc_w 265, 3) := by decide +kernel
theorem dJ6_bitCount_0f7a4_7 : decode cJ6_bitCount_0f7a4 7 = .ok (.iand, 1) := by decide +kernel
theorem dJ6_bitCount_0f7a4_8 : decode cJ6_bitCount_0f7a4 8 = .ok (.isub, 1) := by decide +kernel
theorem dJ6_bitCount_0f7a4_9 : decode cJ6_bitCount_0f7a4 9 = .ok (.istore_n 0, 1) := by decide +kernel
theorem dJ6_bitCount_0f7a4_10 : decode cJ6_bitCount_0f7a4 10 = .ok (.iload_n 0, 1) := by decide +kernel
theorem dJ6_bitCount_0f7a4_11 : decode cJ6_bitCount_0f7a4 11 = .ok (.ldc_w 266, 3) := by decide +kernel
theorem dJ6_bitCount_0f7a4_14 : decode cJ6_bitCount_0f7a4 14 = .ok (.iand, 1) := by decide +kernel
theorem dJ6_bitCount_0f7a4_15 : decode cJ6_bitCount_0f7a4 15 = .ok (.iload_n 0, 1) := by decide +kernel
theorem dJ6_bitCount_0f7a4_16 : decode cJ6_bitCount_0f7a4 16 = .ok (.iconst 2, 1) := by decide +kernel
theorem dJ6_bitCount_0f7a4_17 : decode cJ6_bitCount_0f7a4 17 = .ok (.iushr, 1) := by decide +kernel
theorem dJ6_bitCount_0f7a4_18 : decode cJ6_bitCount_0f7a4 18 = .ok (.ldc_w 266, 3) := by decide +kernel
theorem dJ6_bitCount_0f7a4_21 : decode cJ6_bitCount_0f7a4 21 = .ok (.iand, 1) := by decide +kernel
theorem dJ6_bitCount_0f7a4_22 : decode cJ6_bitCount_0f7a4 22 = .ok (.iadd, 1) := by decide +kernel
theorem dJ6_bitCount_0f7a4_23 : decode cJ6_bitCount_0f7a4 23 = .ok (.istore_n 0, 1) := by decide +kernel
theorem dJ6_bitCount_0f7a4_24 : decode cJ6_bitCount_0f7a4 24 = .ok (.iload_n 0, 1) := by decide +kernel
theorem dJ6_bitCount_0f7a4_25 : decode cJ6_bitCount_0f7a4 25 = .ok (.iload_n 0, 1) := by decide +kernel
theorem dJ6_bitCount_0f7a4_26 : decode cJ6_bitCount_0f7a4 26 = .ok (.iconst 4, 1) := by decide +kernel
theorem dJ6_bitCount_0f7a4_27 : decode cJ6_bitCount_0f7a4 27 = .ok (.iushr, 1) := by decide +kernel
theorem dJ6_bitCount_0f7a4_28 : decode cJ6_bitCount_0f7a4 28 = .ok (.iadd, 1) := by decide +kernel
theorem dJ6_bitCount_0f7a4_29 : decode cJ6_bitCount_0f7a4 29 = .ok (.ldc_w 267, 3) := by decide +kernel
theorem dJ6_bitCount_0f7a4_32 : decode cJ6_bitCount_0f7a4 32 = .ok (.iand, 1) := by decide +kernel
theorem dJ6_bitCount_0f7a4_33 : decode cJ6_bitCount_0f7a4 33 = .ok (.istore_n 0, 1) := by decide +kernel
theorem dJ6_bitCount_0f7a4_34 : decode cJ6_bitCount_0f7a4 34 = .ok (.iload_n 0, 1) := by decide +kernel
theorem dJ6_bitCount_0f7a4_35 : decode cJ6_bitCount_0f7a4 35 = .ok (.iload_n 0, 1) := by decide +kernel
theorem dJ6_bitCount_0f7a4_36 : decode cJ6_bitCount_0f7a4 36 = .ok (.bipush 8, 2) := by decide +kernel
theorem dJ6_bitCount_0f7a4_38 : decode cJ6_bitCount_0f7a4 38 = .ok (.iushr, 1) := by decide +kernel
theorem dJ6_bitCount_0f7a4_39 : decode cJ6_bitCount_0f7a4 39 = .ok (.iadd, 1) := by decide +kernel
theorem dJ6_bitCount_0f7a4_40 : decode cJ6_bitCount_0f7a4 40 = .ok (.istore_n 0, 1) := by decide +kernel
theorem dJ6_bitCount_0f7a4_41 : decode cJ6_bitCount_0f7a4 41 = .ok (.iload_n 0, 1) := by decide +kernel
theorem dJ6_bitCount_0f7a4_42 : decode cJ6_bitCount_0f7a4 42 = .ok (.iload_n 0, 1) := by decide +kernel
theorem dJ6_bitCount_0f7a4_43 : decode cJ6_bitCount_0f7a4 43 = .ok (.bipush 16, 2) := by decide +kernel
theorem dJ6_bitCount_0f7a4_45 : decode cJ6_bitCount_0f7a4 45 = .ok (.iushr, 1) := by decide +kernel
theorem dJ6_bitCount_0f7a4_46 : decode cJ6_bitCount_0f7a4 46 = .ok (.iadd, 1) := by decide +kernel
theorem dJ6_bitCount_0f7a4_47 : decode cJ6_bitCount_0f7a4 47 = .ok (.istore_n 0, 1) := by decide +kernel
theorem dJ6_bitCount_0f7a4_48 : decode cJ6_bitCount_0f7a4 48 = .ok (.iload_n 0, 1) := by decide +kernel
theorem dJ6_bitCount_0f7a4_49 : decode cJ6_bitCount_0f7a4 49 = .ok (.bipush 63, 2) := by decide +kernel
theorem dJ6_bitCount_0f7a4_51 : decode cJ6_bitCount_0f7a4 51 = .ok (.iand, 1) := by decide +kernel
theorem dJ6_bitCount_0f7a4_52 : decode cJ6_bitCount_0f7a4 52 = .ok (.ireturn, 1) := by decide +kernel
theorem dJ9_max_7cf53_0 : decode cJ9_max_7cf53 0 = .ok (.iload_n 0, 1) := by decide +kernel
theorem dJ9_max_7cf53_1 : decode cJ9_max_7cf53 1 = .ok (.iload_n 1, 1) := by decide +kernel
theorem dJ9_max_7cf53_2 : decode cJ9_max_7cf53 2 = .ok (.if_icmp .lt 7, 3) := by decide +kernel
theorem dJ9_max_7cf53_5 : decode cJ9_max_7cf53 5 = .ok (.iload_n 0, 1) := by decide +kernel
theorem dJ9_max_7cf53_6 : decode cJ9_max_7cf53 6 = .ok (.goto 4, 3) := by decide +kernel
theorem dJ9_max_7cf53_9 : decode cJ9_max_7cf53 9 = .ok (.iload_n 1, 1) := by decide +kernel
theorem dJ9_max_7cf53_10 : decode cJ9_max_7cf53 10 = .ok (.ireturn, 1) := by decide +kernel
theorem dJ9_min_7cf53_0 : decode cJ9_min_7cf53 0 = .ok (.iload_n 0, 1) := by decide +kernel
theorem dJ9_min_7cf53_1 : decode cJ9_min_7cf53 1 = .ok (.iload_n 1, 1) := by decide +kernel
theorem dJ9_min_7cf53_2 : decode cJ9_min_7cf53 2 = .ok (.if_icmp .gt 7, 3) := by decide +kernel
theorem dJ9_min_7cf53_5 : decode cJ9_min_7cf53 5 = .ok (.iload_n 0, 1) := by decide +kernel
theorem dJ9_min_7cf53_6 : decode cJ9_min_7cf53 6 = .ok (.goto 4, 3) := by decide +kernel
theorem dJ9_min_7cf53_9 : decode cJ9_min_7cf53 9 = .ok (.iload_n 1, 1) := by decide +kernel
theorem dJ9_min_7cf53_10 : decode cJ9_min_7cf53 10 = .ok (.ireturn, 1) := by decide +kernel
theorem dJxa1e45_init_da8c8_0 : decode cJxa1e45_init_da8c8 0 = .ok (.aload_n 0, 1) := by decide +kernel
theorem dJxa1e45_init_da8c8_1 : decode cJxa1e45_init_da8c8 1 = .ok (.invokespecial 1, 3) := by decide +kernel
theorem dJxa1e45_init_da8c8_4 : decode cJxa1e45_init_da8c8 4 = .ok (.return_, 1) := by decide +kernel
theorem dJxc12de_init_da8c8_0 : decode cJxc12de_init_da8c8 0 = .ok (.aload_n 0, 1) := by decide +kernel
theorem dJxc12de_init_da8c8_1 : decode cJxc12de_init_da8c8 1 = .ok (.invokespecial 1, 3) := by decide +kernel
theorem dJxc12de_init_da8c8_4 : decode cJxc12de_init_da8c8 4 = .ok (.aload_n 0, 1) := by decide +kernel
theorem dJxc12de_init_da8c8_5 : decode cJxc12de_init_da8c8 5 = .ok (.iconst 0, 1) := by decide +kernel
theorem dJxc12de_init_da8c8_6 : decode cJxc12de_init_da8c8 6 = .ok (.putfield 7, 3) := by decide +kernel
theorem dJxc12de_init_da8c8_9 : decode cJxc12de_init_da8c8 9 = .ok (.return_, 1) := by decide +kernel
theorem dJx4a65c_init_da8c8_0 : decode cJx4a65c_init_da8c8 0 = .ok (.aload_n 0, 1) := by decide +kernel
theorem dJx4a65c_init_da8c8_1 : decode cJx4a65c_init_da8c8 1 = .ok (.invokespecial 1, 3) := by decide +kernel
theorem dJx4a65c_init_da8c8_4 : decode cJx4a65c_init_da8c8 4 = .ok (.aload_n 0, 1) := by decide +kernel
theorem dJx4a65c_init_da8c8_5 : decode cJx4a65c_init_da8c8 5 = .ok (.getstatic 39, 3) := by decide +kernel
theorem dJx4a65c_init_da8c8_8 : decode cJx4a65c_init_da8c8 8 = .ok (.putfield 9, 3) := by decide +kernel
theorem dJx4a65c_init_da8c8_11 : decode cJx4a65c_init_da8c8 11 = .ok (.return_, 1) := by decide +kernel
theorem dJx4a65c_grow_92f84_0 : decode cJx4a65c_grow_92f84 0 = .ok (.aload_n 0, 1) := by decide +kernel
theorem dJx4a65c_grow_92f84_1 : decode cJx4a65c_grow_92f84 1 = .ok (.getfield 9, 3) := by decide +kernel
theorem dJx4a65c_grow_92f84_4 : decode cJx4a65c_grow_92f84 4 = .ok (.arraylength, 1) := by decide +kernel
theorem dJx4a65c_grow_92f84_5 : decode cJx4a65c_grow_92f84 5 = .ok (.istore_n 2, 1) := by decide +kernel
theorem dJx4a65c_grow_92f84_6 : decode cJx4a65c_grow_92f84 6 = .ok (.iload_n 2, 1) := by decide +kernel
theorem dJx4a65c_grow_92f84_7 : decode cJx4a65c_grow_92f84 7 = .ok (.ifCond .gt 13, 3) := by decide +kernel
theorem dJx4a65c_grow_92f84_10 : decode cJx4a65c_grow_92f84 10 = .ok (.aload_n 0, 1) := by decide +kernel
theorem dJx4a65c_grow_92f84_11 : decode cJx4a65c_grow_92f84 11 = .ok (.getfield 9, 3) := by decide +kernel
theorem dJx4a65c_grow_92f84_14 : decode cJx4a65c_grow_92f84 14 = .ok (.getstatic 39, 3) := by decide +kernel
theorem dJx4a65c_grow_92f84_17 : decode cJx4a65c_grow_92f84 17 = .ok (.if_acmp .eq 28, 3) := by decide +kernel
theorem dJx4a65c_grow_92f84_20 : decode cJx4a65c_grow_92f84 20 = .ok (.iload_n 2, 1) := by decide +kernel
theorem dJx4a65c_grow_92f84_21 : decode cJx4a65c_grow_92f84 21 = .ok (.iload_n 1, 1) := by decide +kernel
theorem dJx4a65c_grow_92f84_22 : decode cJx4a65c_grow_92f84 22 = .ok (.iload_n 2, 1) := by decide +kernel
theorem dJx4a65c_grow_92f84_23 : decode cJx4a65c_grow_92f84 23 = .ok (.isub, 1) := by decide +kernel
theorem dJx4a65c_grow_92f84_24 : decode cJx4a65c_grow_92f84 24 = .ok (.iload_n 2, 1) := by decide +kernel
theorem dJx4a65c_grow_92f84_25 : decode cJx4a65c_grow_92f84 25 = .ok (.iconst 1, 1) := by decide +kernel
theorem dJx4a65c_grow_92f84_26 : decode cJx4a65c_grow_92f84 26 = .ok (.ishr, 1) := by decide +kernel
theorem dJx4a65c_grow_92f84_27 : decode cJx4a65c_grow_92f84 27 = .ok (.invokestatic 73, 3) := by decide +kernel
theorem dJx4a65c_grow_92f84_30 : decode cJx4a65c_grow_92f84 30 = .ok (.istore_n 3, 1) := by decide +kernel
theorem dJx4a65c_grow_92f84_31 : decode cJx4a65c_grow_92f84 31 = .ok (.aload_n 0, 1) := by decide +kernel
theorem dJx4a65c_grow_92f84_32 : decode cJx4a65c_grow_92f84 32 = .ok (.aload_n 0, 1) := by decide +kernel
theorem dJx4a65c_grow_92f84_33 : decode cJx4a65c_grow_92f84 33 = .ok (.getfield 9, 3) := by decide +kernel
theorem dJx4a65c_grow_92f84_36 : decode cJx4a65c_grow_92f84 36 = .ok (.iload_n 3, 1) := by decide +kernel
theorem dJx4a65c_grow_92f84_37 : decode cJx4a65c_grow_92f84 37 = .ok (.invokestatic 66, 3) := by decide +kernel
theorem dJx4a65c_grow_92f84_40 : decode cJx4a65c_grow_92f84 40 = .ok (.dup_x1, 1) := by decide +kernel
theorem dJx4a65c_grow_92f84_41 : decode cJx4a65c_grow_92f84 41 = .ok (.putfield 9, 3) := by decide +kernel
theorem dJx4a65c_grow_92f84_44 : decode cJx4a65c_grow_92f84 44 = .ok (.areturn, 1) := by decide +kernel
theorem dJx4a65c_grow_92f84_45 : decode cJx4a65c_grow_92f84 45 = .ok (.aload_n 0, 1) := by decide +kernel
theorem dJx4a65c_grow_92f84_46 : decode cJx4a65c_grow_92f84 46 = .ok (.bipush 10, 2) := by decide +kernel
theorem dJx4a65c_grow_92f84_48 : decode cJx4a65c_grow_92f84 48 = .ok (.iload_n 1, 1) := by decide +kernel
theorem dJx4a65c_grow_92f84_49 : decode cJx4a65c_grow_92f84 49 = .ok (.invokestatic 79, 3) := by decide +kernel
theorem dJx4a65c_grow_92f84_52 : decode cJx4a65c_grow_92f84 52 = .ok (.anewarray 7, 3) := by decide +kernel
theorem dJx4a65c_grow_92f84_55 : decode cJx4a65c_grow_92f84 55 = .ok (.dup_x1, 1) := by decide +kernel
theorem dJx4a65c_grow_92f84_56 : decode cJx4a65c_grow_92f84 56 = .ok (.putfield 9, 3) := by decide +kernel
theorem dJx4a65c_grow_92f84_59 : decode cJx4a65c_grow_92f84 59 = .ok (.areturn, 1) := by decide +kernel
theorem dJx4a65c_grow_d5877_0 : decode cJx4a65c_grow_d5877 0 = .ok (.aload_n 0, 1) := by decide +kernel
theorem dJx4a65c_grow_d5877_1 : decode cJx4a65c_grow_d5877 1 = .ok (.aload_n 0, 1) := by decide +kernel
theorem dJx4a65c_grow_d5877_2 : decode cJx4a65c_grow_d5877 2 = .ok (.getfield 48, 3) := by decide +kernel
theorem dJx4a65c_grow_d5877_5 : decode cJx4a65c_grow_d5877 5 = .ok (.iconst 1, 1) := by decide +kernel
theorem dJx4a65c_grow_d5877_6 : decode cJx4a65c_grow_d5877 6 = .ok (.iadd, 1) := by decide +kernel
theorem dJx4a65c_grow_d5877_7 : decode cJx4a65c_grow_d5877 7 = .ok (.invokevirtual 69, 3) := by decide +kernel
theorem dJx4a65c_grow_d5877_10 : decode cJx4a65c_grow_d5877 10 = .ok (.areturn, 1) := by decide +kernel
theorem dJx4a65c_size_8abf5_0 : decode cJx4a65c_size_8abf5 0 = .ok (.aload_n 0, 1) := by decide +kernel
theorem dJx4a65c_size_8abf5_1 : decode cJx4a65c_size_8abf5 1 = .ok (.getfield 48, 3) := by decide +kernel
theorem dJx4a65c_size_8abf5_4 : decode cJx4a65c_size_8abf5 4 = .ok (.ireturn, 1) := by decide +kernel
theorem dJx4a65c_elementData_915e3_0 : decode cJx4a65c_elementData_915e3 0 = .ok (.aload_n 0, 1) := by decide +kernel
theorem dJx4a65c_elementData_915e3_1 : decode cJx4a65c_elementData_915e3 1 = .ok (.getfield 9, 3) := by decide +kernel
theorem dJx4a65c_elementData_915e3_4 : decode cJx4a65c_elementData_915e3 4 = .ok (.iload_n 1, 1) := by decide +kernel
theorem dJx4a65c_elementData_915e3_5 : decode cJx4a65c_elementData_915e3 5 = .ok (.aaload, 1) := by decide +kernel
theorem dJx4a65c_elementData_915e3_6 : decode cJx4a65c_elementData_915e3 6 = .ok (.areturn, 1) := by decide +kernel
theorem dJx4a65c_get_915e3_0 : decode cJx4a65c_get_915e3 0 = .ok (.iload_n 1, 1) := by decide +kernel
theorem dJx4a65c_get_915e3_1 : decode cJx4a65c_get_915e3 1 = .ok (.aload_n 0, 1) := by decide +kernel
theorem dJx4a65c_get_915e3_2 : decode cJx4a65c_get_915e3 2 = .ok (.getfield 48, 3) := by decide +kernel
theorem dJx4a65c_get_915e3_5 : decode cJx4a65c_get_915e3 5 = .ok (.invokestatic 118, 3) := by decide +kernel
theorem dJx4a65c_get_915e3_8 : decode cJx4a65c_get_915e3 8 = .ok (.pop, 1) := by decide +kernel
theorem dJx4a65c_get_915e3_9 : decode cJx4a65c_get_915e3 9 = .ok (.aload_n 0, 1) := by decide +kernel
theorem dJx4a65c_get_915e3_10 : decode cJx4a65c_get_915e3 10 = .ok (.iload_n 1, 1) := by decide +kernel
theorem dJx4a65c_get_915e3_11 : decode cJx4a65c_get_915e3 11 = .ok (.invokevirtual 123, 3) := by decide +kernel
theorem dJx4a65c_get_915e3_14 : decode cJx4a65c_get_915e3 14 = .ok (.areturn, 1) := by decide +kernel
theorem dJx4a65c_add_72be8_0 : decode cJx4a65c_add_72be8 0 = .ok (.iload_n 3, 1) := by decide +kernel
theorem dJx4a65c_add_72be8_1 : decode cJx4a65c_add_72be8 1 = .ok (.aload_n 2, 1) := by decide +kernel
theorem dJx4a65c_add_72be8_2 : decode cJx4a65c_add_72be8 2 = .ok (.arraylength, 1) := by decide +kernel
theorem dJx4a65c_add_72be8_3 : decode cJx4a65c_add_72be8 3 = .ok (.if_icmp .ne 8, 3) := by decide +kernel
theorem dJx4a65c_add_72be8_6 : decode cJx4a65c_add_72be8 6 = .ok (.aload_n 0, 1) := by decide +kernel
theorem dJx4a65c_add_72be8_7 : decode cJx4a65c_add_72be8 7 = .ok (.invokevirtual 129, 3) := by decide +kernel
theorem dJx4a65c_add_72be8_10 : decode cJx4a65c_add_72be8 10 = .ok (.astore_n 2, 1) := by decide +kernel
theorem dJx4a65c_add_72be8_11 : decode cJx4a65c_add_72be8 11 = .ok (.aload_n 2, 1) := by decide +kernel
theorem dJx4a65c_add_72be8_12 : decode cJx4a65c_add_72be8 12 = .ok (.iload_n 3, 1) := by decide +kernel
theorem dJx4a65c_add_72be8_13 : decode cJx4a65c_add_72be8 13 = .ok (.aload_n 1, 1) := by decide +kernel
theorem dJx4a65c_add_72be8_14 : decode cJx4a65c_add_72be8 14 = .ok (.aastore, 1) := by decide +kernel
theorem dJx4a65c_add_72be8_15 : decode cJx4a65c_add_72be8 15 = .ok (.aload_n 0, 1) := by decide +kernel
theorem dJx4a65c_add_72be8_16 : decode cJx4a65c_add_72be8 16 = .ok (.iload_n 3, 1) := by decide +kernel
theorem dJx4a65c_add_72be8_17 : decode cJx4a65c_add_72be8 17 = .ok (.iconst 1, 1) := by decide +kernel
theorem dJx4a65c_add_72be8_18 : decode cJx4a65c_add_72be8 18 = .ok (.iadd, 1) := by decide +kernel
theorem dJx4a65c_add_72be8_19 : decode cJx4a65c_add_72be8 19 = .ok (.putfield 48, 3) := by decide +kernel
theorem dJx4a65c_add_72be8_22 : decode cJx4a65c_add_72be8 22 = .ok (.return_, 1) := by decide +kernel
theorem dJx4a65c_add_9ea2d_0 : decode cJx4a65c_add_9ea2d 0 = .ok (.aload_n 0, 1) := by decide +kernel
theorem dJx4a65c_add_9ea2d_1 : decode cJx4a65c_add_9ea2d 1 = .ok (.dup, 1) := by decide +kernel
theorem dJx4a65c_add_9ea2d_2 : decode cJx4a65c_add_9ea2d 2 = .ok (.getfield 63, 3) := by decide +kernel
theorem dJx4a65c_add_9ea2d_5 : decode cJx4a65c_add_9ea2d 5 = .ok (.iconst 1, 1) := by decide +kernel
theorem dJx4a65c_add_9ea2d_6 : decode cJx4a65c_add_9ea2d 6 = .ok (.iadd, 1) := by decide +kernel
theorem dJx4a65c_add_9ea2d_7 : decode cJx4a65c_add_9ea2d 7 = .ok (.putfield 63, 3) := by decide +kernel
theorem dJx4a65c_add_9ea2d_10 : decode cJx4a65c_add_9ea2d 10 = .ok (.aload_n 0, 1) := by decide +kernel
theorem dJx4a65c_add_9ea2d_11 : decode cJx4a65c_add_9ea2d 11 = .ok (.aload_n 1, 1) := by decide +kernel
theorem dJx4a65c_add_9ea2d_12 : decode cJx4a65c_add_9ea2d 12 = .ok (.aload_n 0, 1) := by decide +kernel
theorem dJx4a65c_add_9ea2d_13 : decode cJx4a65c_add_9ea2d 13 = .ok (.getfield 9, 3) := by decide +kernel
theorem dJx4a65c_add_9ea2d_16 : decode cJx4a65c_add_9ea2d 16 = .ok (.aload_n 0, 1) := by decide +kernel
theorem dJx4a65c_add_9ea2d_17 : decode cJx4a65c_add_9ea2d 17 = .ok (.getfield 48, 3) := by decide +kernel
theorem dJx4a65c_add_9ea2d_20 : decode cJx4a65c_add_9ea2d 20 = .ok (.invokevirtual 131, 3) := by decide +kernel
theorem dJx4a65c_add_9ea2d_23 : decode cJx4a65c_add_9ea2d 23 = .ok (.iconst 1, 1) := by decide +kernel
theorem dJx4a65c_add_9ea2d_24 : decode cJx4a65c_add_9ea2d 24 = .ok (.ireturn, 1) := by decide +kernel
theorem dJ7_fill_53178_0 : decode cJ7_fill_53178 0 = .ok (.iconst 0, 1) := by decide +kernel
theorem dJ7_fill_53178_1 : decode cJ7_fill_53178 1 = .ok (.istore_n 2, 1) := by decide +kernel
theorem dJ7_fill_53178_2 : decode cJ7_fill_53178 2 = .ok (.aload_n 0, 1) := by decide +kernel
theorem dJ7_fill_53178_3 : decode cJ7_fill_53178 3 = .ok (.arraylength, 1) := by decide +kernel
theorem dJ7_fill_53178_4 : decode cJ7_fill_53178 4 = .ok (.istore_n 3, 1) := by decide +kernel
theorem dJ7_fill_53178_5 : decode cJ7_fill_53178 5 = .ok (.iload_n 2, 1) := by decide +kernel
theorem dJ7_fill_53178_6 : decode cJ7_fill_53178 6 = .ok (.iload_n 3, 1) := by decide +kernel
theorem dJ7_fill_53178_7 : decode cJ7_fill_53178 7 = .ok (.if_icmp .ge 13, 3) := by decide +kernel
theorem dJ7_fill_53178_10 : decode cJ7_fill_53178 10 = .ok (.aload_n 0, 1) := by decide +kernel
theorem dJ7_fill_53178_11 : decode cJ7_fill_53178 11 = .ok (.iload_n 2, 1) := by decide +kernel
theorem dJ7_fill_53178_12 : decode cJ7_fill_53178 12 = .ok (.iload_n 1, 1) := by decide +kernel
theorem dJ7_fill_53178_13 : decode cJ7_fill_53178 13 = .ok (.iastore, 1) := by decide +kernel
theorem dJ7_fill_53178_14 : decode cJ7_fill_53178 14 = .ok (.iinc 2 1, 3) := by decide +kernel
theorem dJ7_fill_53178_17 : decode cJ7_fill_53178 17 = .ok (.goto (-12), 3) := by decide +kernel
theorem dJ7_fill_53178_20 : decode cJ7_fill_53178 20 = .ok (.return_, 1) := by decide +kernel
theorem dJ7_copyOf_1904c_0 : decode cJ7_copyOf_1904c 0 = .ok (.aload_n 0, 1) := by decide +kernel
theorem dJ7_copyOf_1904c_1 : decode cJ7_copyOf_1904c 1 = .ok (.iload_n 1, 1) := by decide +kernel
theorem dJ7_copyOf_1904c_2 : decode cJ7_copyOf_1904c 2 = .ok (.aload_n 0, 1) := by decide +kernel
theorem dJ7_copyOf_1904c_3 : decode cJ7_copyOf_1904c 3 = .ok (.invokevirtual 86, 3) := by decide +kernel
theorem dJ7_copyOf_1904c_6 : decode cJ7_copyOf_1904c 6 = .ok (.invokestatic 300, 3) := by decide +kernel
theorem dJ7_copyOf_1904c_9 : decode cJ7_copyOf_1904c 9 = .ok (.areturn, 1) := by decide +kernel
theorem dJ7_copyOf_6403c_0 : decode cJ7_copyOf_6403c 0 = .ok (.aload_n 2, 1) := by decide +kernel
theorem dJ7_copyOf_6403c_1 : decode cJ7_copyOf_6403c 1 = .ok (.ldc 110, 2) := by decide +kernel
theorem dJ7_copyOf_6403c_3 : decode cJ7_copyOf_6403c 3 = .ok (.if_acmp .ne 10, 3) := by decide +kernel
theorem dJ7_copyOf_6403c_6 : decode cJ7_copyOf_6403c 6 = .ok (.iload_n 1, 1) := by decide +kernel
theorem dJ7_copyOf_6403c_7 : decode cJ7_copyOf_6403c 7 = .ok (.anewarray 2, 3) := by decide +kernel
theorem dJ7_copyOf_6403c_10 : decode cJ7_copyOf_6403c 10 = .ok (.goto 14, 3) := by decide +kernel
theorem dJ7_copyOf_6403c_13 : decode cJ7_copyOf_6403c 13 = .ok (.aload_n 2, 1) := by decide +kernel
theorem dJ7_copyOf_6403c_14 : decode cJ7_copyOf_6403c 14 = .ok (.invokevirtual 90, 3) := by decide +kernel
theorem dJ7_copyOf_6403c_17 : decode cJ7_copyOf_6403c 17 = .ok (.iload_n 1, 1) := by decide +kernel
theorem dJ7_copyOf_6403c_18 : decode cJ7_copyOf_6403c 18 = .ok (.invokestatic 95, 3) := by decide +kernel
theorem dJ7_copyOf_6403c_21 : decode cJ7_copyOf_6403c 21 = .ok (.checkcast 110, 3) := by decide +kernel
theorem dJ7_copyOf_6403c_24 : decode cJ7_copyOf_6403c 24 = .ok (.astore_n 3, 1) := by decide +kernel
theorem dJ7_copyOf_6403c_25 : decode cJ7_copyOf_6403c 25 = .ok (.aload_n 0, 1) := by decide +kernel
theorem dJ7_copyOf_6403c_26 : decode cJ7_copyOf_6403c 26 = .ok (.iconst 0, 1) := by decide +kernel
theorem dJ7_copyOf_6403c_27 : decode cJ7_copyOf_6403c 27 = .ok (.aload_n 3, 1) := by decide +kernel
theorem dJ7_copyOf_6403c_28 : decode cJ7_copyOf_6403c 28 = .ok (.iconst 0, 1) := by decide +kernel
theorem dJ7_copyOf_6403c_29 : decode cJ7_copyOf_6403c 29 = .ok (.aload_n 0, 1) := by decide +kernel
theorem dJ7_copyOf_6403c_30 : decode cJ7_copyOf_6403c 30 = .ok (.arraylength, 1) := by decide +kernel
theorem dJ7_copyOf_6403c_31 : decode cJ7_copyOf_6403c 31 = .ok (.iload_n 1, 1) := by decide +kernel
theorem dJ7_copyOf_6403c_32 : decode cJ7_copyOf_6403c 32 = .ok (.invokestatic 304, 3) := by decide +kernel
theorem dJ7_copyOf_6403c_35 : decode cJ7_copyOf_6403c 35 = .ok (.invokestatic 150, 3) := by decide +kernel
theorem dJ7_copyOf_6403c_38 : decode cJ7_copyOf_6403c 38 = .ok (.aload_n 3, 1) := by decide +kernel
theorem dJ7_copyOf_6403c_39 : decode cJ7_copyOf_6403c 39 = .ok (.areturn, 1) := by decide +kernel
theorem dJ15_checkIndex_7cf53_0 : decode cJ15_checkIndex_7cf53 0 = .ok (.iload_n 0, 1) := by decide +kernel
theorem dJ15_checkIndex_7cf53_1 : decode cJ15_checkIndex_7cf53 1 = .ok (.iload_n 1, 1) := by decide +kernel
theorem dJ15_checkIndex_7cf53_2 : decode cJ15_checkIndex_7cf53 2 = .ok (.aconst_null, 1) := by decide +kernel
theorem dJ15_checkIndex_7cf53_3 : decode cJ15_checkIndex_7cf53 3 = .ok (.invokestatic 105, 3) := by decide +kernel
theorem dJ15_checkIndex_7cf53_6 : decode cJ15_checkIndex_7cf53 6 = .ok (.ireturn, 1) := by decide +kernel
theorem dJ8_newLength_cabcc_0 : decode cJ8_newLength_cabcc 0 = .ok (.iload_n 0, 1) := by decide +kernel
theorem dJ8_newLength_cabcc_1 : decode cJ8_newLength_cabcc 1 = .ok (.iload_n 1, 1) := by decide +kernel
theorem dJ8_newLength_cabcc_2 : decode cJ8_newLength_cabcc 2 = .ok (.iload_n 2, 1) := by decide +kernel
theorem dJ8_newLength_cabcc_3 : decode cJ8_newLength_cabcc 3 = .ok (.invokestatic 194, 3) := by decide +kernel
theorem dJ8_newLength_cabcc_6 : decode cJ8_newLength_cabcc 6 = .ok (.iadd, 1) := by decide +kernel
theorem dJ8_newLength_cabcc_7 : decode cJ8_newLength_cabcc 7 = .ok (.istore_n 3, 1) := by decide +kernel
theorem dJ8_newLength_cabcc_8 : decode cJ8_newLength_cabcc 8 = .ok (.iconst 0, 1) := by decide +kernel
theorem dJ8_newLength_cabcc_9 : decode cJ8_newLength_cabcc 9 = .ok (.iload_n 3, 1) := by decide +kernel
theorem dJ8_newLength_cabcc_10 : decode cJ8_newLength_cabcc 10 = .ok (.if_icmp .ge 11, 3) := by decide +kernel
theorem dJ8_newLength_cabcc_13 : decode cJ8_newLength_cabcc 13 = .ok (.iload_n 3, 1) := by decide +kernel
theorem dJ8_newLength_cabcc_14 : decode cJ8_newLength_cabcc 14 = .ok (.ldc 200, 2) := by decide +kernel
theorem dJ8_newLength_cabcc_16 : decode cJ8_newLength_cabcc 16 = .ok (.if_icmp .gt 5, 3) := by decide +kernel
theorem dJ8_newLength_cabcc_19 : decode cJ8_newLength_cabcc 19 = .ok (.iload_n 3, 1) := by decide +kernel
theorem dJ8_newLength_cabcc_20 : decode cJ8_newLength_cabcc 20 = .ok (.ireturn, 1) := by decide +kernel
theorem dJ8_newLength_cabcc_21 : decode cJ8_newLength_cabcc 21 = .ok (.iload_n 0, 1) := by decide +kernel
theorem dJ8_newLength_cabcc_22 : decode cJ8_newLength_cabcc 22 = .ok (.iload_n 1, 1) := by decide +kernel
theorem dJ8_newLength_cabcc_23 : decode cJ8_newLength_cabcc 23 = .ok (.invokestatic 201, 3) := by decide +kernel
theorem dJ8_newLength_cabcc_26 : decode cJ8_newLength_cabcc 26 = .ok (.ireturn, 1) := by decide +kernel
theorem dJ8_hugeLength_7cf53_0 : decode cJ8_hugeLength_7cf53 0 = .ok (.iload_n 0, 1) := by decide +kernel
theorem dJ8_hugeLength_7cf53_1 : decode cJ8_hugeLength_7cf53 1 = .ok (.iload_n 1, 1) := by decide +kernel
theorem dJ8_hugeLength_7cf53_2 : decode cJ8_hugeLength_7cf53 2 = .ok (.iadd, 1) := by decide +kernel
theorem dJ8_hugeLength_7cf53_3 : decode cJ8_hugeLength_7cf53 3 = .ok (.istore_n 2, 1) := by decide +kernel
theorem dJ8_hugeLength_7cf53_4 : decode cJ8_hugeLength_7cf53 4 = .ok (.iload_n 2, 1) := by decide +kernel
theorem dJ8_hugeLength_7cf53_5 : decode cJ8_hugeLength_7cf53 5 = .ok (.ifCond .ge 44, 3) := by decide +kernel
theorem dJ8_hugeLength_7cf53_8 : decode cJ8_hugeLength_7cf53 8 = .ok (.new 204, 3) := by decide +kernel
theorem dJ8_hugeLength_7cf53_11 : decode cJ8_hugeLength_7cf53 11 = .ok (.dup, 1) := by decide +kernel
theorem dJ8_hugeLength_7cf53_12 : decode cJ8_hugeLength_7cf53 12 = .ok (.new 89, 3) := by decide +kernel
theorem dJ8_hugeLength_7cf53_15 : decode cJ8_hugeLength_7cf53 15 = .ok (.dup, 1) := by decide +kernel
theorem dJ8_hugeLength_7cf53_16 : decode cJ8_hugeLength_7cf53 16 = .ok (.invokespecial 91, 3) := by decide +kernel
theorem dJ8_hugeLength_7cf53_19 : decode cJ8_hugeLength_7cf53 19 = .ok (.ldc 206, 2) := by decide +kernel
theorem dJ8_hugeLength_7cf53_21 : decode cJ8_hugeLength_7cf53 21 = .ok (.invokevirtual 94, 3) := by decide +kernel
theorem dJ8_hugeLength_7cf53_24 : decode cJ8_hugeLength_7cf53 24 = .ok (.iload_n 0, 1) := by decide +kernel
theorem dJ8_hugeLength_7cf53_25 : decode cJ8_hugeLength_7cf53 25 = .ok (.invokevirtual 98, 3) := by decide +kernel
theorem dJ8_hugeLength_7cf53_28 : decode cJ8_hugeLength_7cf53 28 = .ok (.ldc 208, 2) := by decide +kernel
theorem dJ8_hugeLength_7cf53_30 : decode cJ8_hugeLength_7cf53 30 = .ok (.invokevirtual 94, 3) := by decide +kernel
theorem dJ8_hugeLength_7cf53_33 : decode cJ8_hugeLength_7cf53 33 = .ok (.iload_n 1, 1) := by decide +kernel
theorem dJ8_hugeLength_7cf53_34 : decode cJ8_hugeLength_7cf53 34 = .ok (.invokevirtual 98, 3) := by decide +kernel
theorem dJ8_hugeLength_7cf53_37 : decode cJ8_hugeLength_7cf53 37 = .ok (.ldc 210, 2) := by decide +kernel
theorem dJ8_hugeLength_7cf53_39 : decode cJ8_hugeLength_7cf53 39 = .ok (.invokevirtual 94, 3) := by decide +kernel
theorem dJ8_hugeLength_7cf53_42 : decode cJ8_hugeLength_7cf53 42 = .ok (.invokevirtual 101, 3) := by decide +kernel
theorem dJ8_hugeLength_7cf53_45 : decode cJ8_hugeLength_7cf53 45 = .ok (.invokespecial 212, 3) := by decide +kernel
theorem dJ8_hugeLength_7cf53_48 : decode cJ8_hugeLength_7cf53 48 = .ok (.athrow, 1) := by decide +kernel
theorem dJ8_hugeLength_7cf53_49 : decode cJ8_hugeLength_7cf53 49 = .ok (.iload_n 2, 1) := by decide +kernel
theorem dJ8_hugeLength_7cf53_50 : decode cJ8_hugeLength_7cf53 50 = .ok (.ldc 200, 2) := by decide +kernel
theorem dJ8_hugeLength_7cf53_52 : decode cJ8_hugeLength_7cf53 52 = .ok (.if_icmp .gt 6, 3) := by decide +kernel
theorem dJ8_hugeLength_7cf53_55 : decode cJ8_hugeLength_7cf53 55 = .ok (.ldc 200, 2) := by decide +kernel
theorem dJ8_hugeLength_7cf53_57 : decode cJ8_hugeLength_7cf53 57 = .ok (.ireturn, 1) := by decide +kernel
theorem dJ8_hugeLength_7cf53_58 : decode cJ8_hugeLength_7cf53 58 = .ok (.iload_n 2, 1) := by decide +kernel
theorem dJ8_hugeLength_7cf53_59 : decode cJ8_hugeLength_7cf53 59 = .ok (.ireturn, 1) := by decide +kernel
theorem dJ3_checkIndex_8e157_0 : decode cJ3_checkIndex_8e157 0 = .ok (.iload_n 0, 1) := by decide +kernel
theorem dJ3_checkIndex_8e157_1 : decode cJ3_checkIndex_8e157 1 = .ok (.ifCond .lt 8, 3) := by decide +kernel
theorem dJ3_checkIndex_8e157_4 : decode cJ3_checkIndex_8e157 4 = .ok (.iload_n 0, 1) := by decide +kernel
theorem dJ3_checkIndex_8e157_5 : decode cJ3_checkIndex_8e157 5 = .ok (.iload_n 1, 1) := by decide +kernel
theorem dJ3_checkIndex_8e157_6 : decode cJ3_checkIndex_8e157 6 = .ok (.if_icmp .lt 10, 3) := by decide +kernel
theorem dJ3_checkIndex_8e157_9 : decode cJ3_checkIndex_8e157 9 = .ok (.aload_n 2, 1) := by decide +kernel
theorem dJ3_checkIndex_8e157_10 : decode cJ3_checkIndex_8e157 10 = .ok (.iload_n 0, 1) := by decide +kernel
theorem dJ3_checkIndex_8e157_11 : decode cJ3_checkIndex_8e157 11 = .ok (.iload_n 1, 1) := by decide +kernel
theorem dJ3_checkIndex_8e157_12 : decode cJ3_checkIndex_8e157 12 = .ok (.invokestatic 95, 3) := by decide +kernel
theorem dJ3_checkIndex_8e157_15 : decode cJ3_checkIndex_8e157 15 = .ok (.athrow, 1) := by decide +kernel
theorem dJ3_checkIndex_8e157_16 : decode cJ3_checkIndex_8e157 16 = .ok (.iload_n 0, 1) := by decide +kernel
theorem dJ3_checkIndex_8e157_17 : decode cJ3_checkIndex_8e157 17 = .ok (.ireturn, 1) := by decide +kernel
