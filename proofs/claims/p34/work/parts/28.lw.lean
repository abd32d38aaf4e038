section WRD
theorem fl_X10_47 : Cond.fieldLink RX10 47 "FlagChamber" "log" "Ljava/util/ArrayList;" ∈ BW := BW_of (List.mem_append_right _ (List.mem_of_getElem? (i := 279) (by decide +kernel))) (by decide +kernel)
theorem me_X10_entries : jMe yX10_entries cX10_entries 1 (some .int) 0 := ⟨BW_of (List.mem_append_right _ (List.mem_of_getElem? (i := 916) (by decide +kernel))) (by decide +kernel), in_X10, by decide +kernel⟩
theorem sr_X10_312 : Cond.stringRef RX10 312 "the log is full" ∈ tables_1 := List.mem_of_getElem? (i := 733) (by decide +kernel)
theorem me_X10_checkLog : jMe yX10_checkLog cX10_checkLog 1 none 0 := ⟨BW_of (List.mem_append_right _ (List.mem_of_getElem? (i := 728) (by decide +kernel))) (by decide +kernel), in_X10, by decide +kernel⟩
theorem ml_X10_226 : Cond.methodLink RX10 226 yX1_concerns ∈ BW := BW_of (List.mem_append_right _ (List.mem_of_getElem? (i := 822) (by decide +kernel))) (by decide +kernel)
theorem ml_X10_230 : Cond.methodLink RX10 230 yX5_take ∈ BW := BW_of (List.mem_append_right _ (List.mem_of_getElem? (i := 826) (by decide +kernel))) (by decide +kernel)
theorem im_X5_take : Cond.instanceMethod yX5_take ∈ BW := BW_of (List.mem_append_right _ (List.mem_of_getElem? (i := 827) (by decide +kernel))) (by decide +kernel)
theorem iv_X5_take : Cond.instanceMethod yX5_take ∈ BW ∧ Cond.selects (yX5_take).cls yX5_take yX5_take ∈ BW := ⟨im_X5_take, BW_of (List.mem_append_right _ (List.mem_of_getElem? (i := 828) (by decide +kernel))) (by decide +kernel)⟩
theorem im_X1_concerns : Cond.instanceMethod yX1_concerns ∈ BW := BW_of (List.mem_append_right _ (List.mem_of_getElem? (i := 823) (by decide +kernel))) (by decide +kernel)
theorem iv_X1_concerns : Cond.instanceMethod yX1_concerns ∈ BW ∧ Cond.selects (yX1_concerns).cls yX1_concerns yX1_concerns ∈ BW := ⟨im_X1_concerns, BW_of (List.mem_append_right _ (List.mem_of_getElem? (i := 824) (by decide +kernel))) (by decide +kernel)⟩
theorem me_X10_enter : jMe yX10_enter cX10_enter 3 none 1 := ⟨BW_of (List.mem_append_right _ (List.mem_of_getElem? (i := 763) (by decide +kernel))) (by decide +kernel), in_X10, by decide +kernel⟩
theorem ml_X10_213 : Cond.methodLink RX10 213 yX5_forget ∈ BW := BW_of (List.mem_append_right _ (List.mem_of_getElem? (i := 960) (by decide +kernel))) (by decide +kernel)
theorem fl_X10_58 : Cond.fieldLink RX10 58 "FlagChamber" "replayed" "LFlagChamber$Past;" ∈ BW := BW_of (List.mem_append_right _ (List.mem_of_getElem? (i := 281) (by decide +kernel))) (by decide +kernel)
theorem im_X5_forget : Cond.instanceMethod yX5_forget ∈ BW := BW_of (List.mem_append_right _ (List.mem_of_getElem? (i := 208) (by decide +kernel))) (by decide +kernel)
theorem iv_X5_forget : Cond.instanceMethod yX5_forget ∈ BW ∧ Cond.selects (yX5_forget).cls yX5_forget yX5_forget ∈ BW := ⟨im_X5_forget, BW_of (List.mem_append_right _ (List.mem_of_getElem? (i := 209) (by decide +kernel))) (by decide +kernel)⟩
theorem me_X10_viewByLog : jMe yX10_viewByLog cX10_viewByLog 4 (some .int) 2 := ⟨BW_of (List.mem_append_right _ (List.mem_of_getElem? (i := 959) (by decide +kernel))) (by decide +kernel), in_X10, by decide +kernel⟩
theorem ml_X10_241 : Cond.methodLink RX10 241 yX10_checkLog ∈ BW := BW_of (List.mem_append_right _ (List.mem_of_getElem? (i := 725) (by decide +kernel))) (by decide +kernel)
theorem ml_X10_244 : Cond.methodLink RX10 244 yX10_trialThatShows ∈ BW := BW_of (List.mem_append_right _ (List.mem_of_getElem? (i := 898) (by decide +kernel))) (by decide +kernel)
theorem ml_X10_247 : Cond.methodLink RX10 247 yX10_keeps ∈ BW := BW_of (List.mem_append_right _ (List.mem_of_getElem? (i := 906) (by decide +kernel))) (by decide +kernel)
theorem ml_X10_253 : Cond.methodLink RX10 253 yX10_enter ∈ BW := BW_of (List.mem_append_right _ (List.mem_of_getElem? (i := 760) (by decide +kernel))) (by decide +kernel)
theorem im_X10_enter : Cond.instanceMethod yX10_enter ∈ BW := BW_of (List.mem_append_right _ (List.mem_of_getElem? (i := 762) (by decide +kernel))) (by decide +kernel)
theorem iv_X10_enter : Cond.instanceMethod yX10_enter ∈ BW ∧ Cond.selects (yX10_enter).cls yX10_enter yX10_enter ∈ BW := ⟨im_X10_enter, BW_of (List.mem_append_left _ (List.mem_of_getElem? (i := 17) (by decide +kernel))) (by decide +kernel)⟩
theorem im_X10_keeps : Cond.instanceMethod yX10_keeps ∈ BW := BW_of (List.mem_append_right _ (List.mem_of_getElem? (i := 908) (by decide +kernel))) (by decide +kernel)
theorem iv_X10_keeps : Cond.instanceMethod yX10_keeps ∈ BW ∧ Cond.selects (yX10_keeps).cls yX10_keeps yX10_keeps ∈ BW := ⟨im_X10_keeps, BW_of (List.mem_append_left _ (List.mem_of_getElem? (i := 28) (by decide +kernel))) (by decide +kernel)⟩
theorem im_X10_trialThatShows : Cond.instanceMethod yX10_trialThatShows ∈ BW := BW_of (List.mem_append_right _ (List.mem_of_getElem? (i := 900) (by decide +kernel))) (by decide +kernel)
theorem iv_X10_trialThatShows : Cond.instanceMethod yX10_trialThatShows ∈ BW ∧ Cond.selects (yX10_trialThatShows).cls yX10_trialThatShows yX10_trialThatShows ∈ BW := ⟨im_X10_trialThatShows, BW_of (List.mem_append_left _ (List.mem_of_getElem? (i := 26) (by decide +kernel))) (by decide +kernel)⟩
theorem im_X10_checkLog : Cond.instanceMethod yX10_checkLog ∈ BW := BW_of (List.mem_append_right _ (List.mem_of_getElem? (i := 727) (by decide +kernel))) (by decide +kernel)
theorem iv_X10_checkLog : Cond.instanceMethod yX10_checkLog ∈ BW ∧ Cond.selects (yX10_checkLog).cls yX10_checkLog yX10_checkLog ∈ BW := ⟨im_X10_checkLog, BW_of (List.mem_append_left _ (List.mem_of_getElem? (i := 16) (by decide +kernel))) (by decide +kernel)⟩
theorem me_X10_show : jMe yX10_show cX10_show 5 (some .int) 2 := ⟨BW_of (List.mem_append_right _ (List.mem_of_getElem? (i := 897) (by decide +kernel))) (by decide +kernel), in_X10, by decide +kernel⟩
theorem me_X10_beginAnew : jMe yX10_beginAnew cX10_beginAnew 4 (some .int) 1 := ⟨BW_of (List.mem_append_right _ (List.mem_of_getElem? (i := 724) (by decide +kernel))) (by decide +kernel), in_X10, by decide +kernel⟩
theorem sr_X10_284 : Cond.stringRef RX10 284 "the view is held by itself" ∈ tables_1 := List.mem_of_getElem? (i := 854) (by decide +kernel)
theorem me_X10_hold : jMe yX10_hold cX10_hold 4 (some .int) 2 := ⟨BW_of (List.mem_append_right _ (List.mem_of_getElem? (i := 853) (by decide +kernel))) (by decide +kernel), in_X10, by decide +kernel⟩
theorem sr_X10_286 : Cond.stringRef RX10 286 "the view is not held by itself" ∈ tables_1 := List.mem_of_getElem? (i := 866) (by decide +kernel)
theorem me_X10_release : jMe yX10_release cX10_release 3 (some .int) 2 := ⟨BW_of (List.mem_append_right _ (List.mem_of_getElem? (i := 865) (by decide +kernel))) (by decide +kernel), in_X10, by decide +kernel⟩
theorem ml_X10_292 : Cond.methodLink RX10 292 yX5_countHeldBy ∈ BW := BW_of (List.mem_append_right _ (List.mem_of_getElem? (i := 874) (by decide +kernel))) (by decide +kernel)
theorem im_X5_countHeldBy : Cond.instanceMethod yX5_countHeldBy ∈ BW := BW_of (List.mem_append_right _ (List.mem_of_getElem? (i := 875) (by decide +kernel))) (by decide +kernel)
theorem iv_X5_countHeldBy : Cond.instanceMethod yX5_countHeldBy ∈ BW ∧ Cond.selects (yX5_countHeldBy).cls yX5_countHeldBy yX5_countHeldBy ∈ BW := ⟨im_X5_countHeldBy, BW_of (List.mem_append_right _ (List.mem_of_getElem? (i := 876) (by decide +kernel))) (by decide +kernel)⟩
theorem me_X10_holdTrial : jMe yX10_holdTrial cX10_holdTrial 4 (some .int) 1 := ⟨BW_of (List.mem_append_right _ (List.mem_of_getElem? (i := 873) (by decide +kernel))) (by decide +kernel), in_X10, by decide +kernel⟩
theorem ml_X10_297 : Cond.methodLink RX10 297 yX5_countHeldOnlyBy ∈ BW := BW_of (List.mem_append_right _ (List.mem_of_getElem? (i := 887) (by decide +kernel))) (by decide +kernel)
theorem im_X5_countHeldOnlyBy : Cond.instanceMethod yX5_countHeldOnlyBy ∈ BW := BW_of (List.mem_append_right _ (List.mem_of_getElem? (i := 888) (by decide +kernel))) (by decide +kernel)
theorem iv_X5_countHeldOnlyBy : Cond.instanceMethod yX5_countHeldOnlyBy ∈ BW ∧ Cond.selects (yX5_countHeldOnlyBy).cls yX5_countHeldOnlyBy yX5_countHeldOnlyBy ∈ BW := ⟨im_X5_countHeldOnlyBy, BW_of (List.mem_append_right _ (List.mem_of_getElem? (i := 889) (by decide +kernel))) (by decide +kernel)⟩
theorem sr_X10_295 : Cond.stringRef RX10 295 "the trial is not held" ∈ tables_1 := List.mem_of_getElem? (i := 886) (by decide +kernel)
theorem me_X10_releaseTrial : jMe yX10_releaseTrial cX10_releaseTrial 4 (some .int) 1 := ⟨BW_of (List.mem_append_right _ (List.mem_of_getElem? (i := 885) (by decide +kernel))) (by decide +kernel), in_X10, by decide +kernel⟩
end WRD
