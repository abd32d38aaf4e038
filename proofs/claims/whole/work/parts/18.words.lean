section WRD
theorem in_X10 : Cond.initialized RX10 ∈ BW := BW_of (List.mem_append_right _ (List.mem_of_getElem? (i := 1) (by decide +kernel))) (by decide +kernel)
theorem me_X10_hasBit : jMe yX10_hasBit cX10_hasBit 2 (some .boolean) 2 := ⟨BW_of (List.mem_append_right _ (List.mem_of_getElem? (i := 75) (by decide +kernel))) (by decide +kernel), in_X10, by decide +kernel⟩
theorem me_X10_withBit : jMe yX10_withBit cX10_withBit 3 (some .int) 3 := ⟨BW_of (List.mem_append_right _ (List.mem_of_getElem? (i := 84) (by decide +kernel))) (by decide +kernel), in_X10, by decide +kernel⟩
theorem me_X10_mostOf : jMe yX10_mostOf cX10_mostOf 1 (some .int) 1 := ⟨BW_of (List.mem_append_right _ (List.mem_of_getElem? (i := 398) (by decide +kernel))) (by decide +kernel), in_X10, by decide +kernel⟩
set_option maxRecDepth 100000 in
theorem th_X10_1_124_128 : jTh RX10 1 124 128 := by
  have h : ∀ w ∈ Cond.classLink RX10 124 (jE 1) :: Cond.initialized (jE 1) :: vx_atS RX10 128 (jE 1) ["java/lang/RuntimeException", "java/lang/Exception"], (w ∈ lw_tbl ∧ goodWord w = true) ∨ (w ∈ tables_1 ∧ jNest w = true) := by decide +kernel
  have h0 := h _ List.mem_cons_self
  have h1 := h _ (List.mem_cons_of_mem _ List.mem_cons_self)
  have nn : ∀ w : Cond, (w ∈ tables_1 ∧ jNest w = true) → jNest w = true := fun _ h => h.2
  refine ⟨by decide, by decide +kernel, ?_, ?_, fun w hw => (h w (List.mem_cons_of_mem _ (List.mem_cons_of_mem _ hw))).imp (fun h => BW_of h.1 h.2) id, by decide +kernel⟩
  · exact h0.elim (fun h => BW_of h.1 h.2) (fun h => nomatch (show false = true from h.2))
  · exact h1.elim (fun h => BW_of h.1 h.2) (fun h => nomatch (show false = true from h.2))
theorem sr_X10_303 : Cond.stringRef RX10 303 "an argument is out of range" ∈ tables_1 := List.mem_of_getElem? (i := 369) (by decide +kernel)
theorem me_X10_checkRange : jMe yX10_checkRange cX10_checkRange 3 none 3 := ⟨BW_of (List.mem_append_right _ (List.mem_of_getElem? (i := 327) (by decide +kernel))) (by decide +kernel), in_X10, by decide +kernel⟩
theorem ml_X10_74 : Cond.methodLink RX10 74 yX10_checkRange ∈ BW := BW_of (List.mem_append_right _ (List.mem_of_getElem? (i := 325) (by decide +kernel))) (by decide +kernel)
theorem st_X10_checkRange : Cond.static yX10_checkRange ∈ BW := BW_of (List.mem_append_right _ (List.mem_of_getElem? (i := 326) (by decide +kernel))) (by decide +kernel)
theorem me_X10_checkPerson : jMe yX10_checkPerson cX10_checkPerson 1 none 1 := ⟨BW_of (List.mem_append_right _ (List.mem_of_getElem? (i := 324) (by decide +kernel))) (by decide +kernel), in_X10, by decide +kernel⟩
theorem me_X10_checkAudience : jMe yX10_checkAudience cX10_checkAudience 1 none 1 := ⟨BW_of (List.mem_append_right _ (List.mem_of_getElem? (i := 467) (by decide +kernel))) (by decide +kernel), in_X10, by decide +kernel⟩
theorem me_X10_checkFlag : jMe yX10_checkFlag cX10_checkFlag 1 none 1 := ⟨BW_of (List.mem_append_right _ (List.mem_of_getElem? (i := 661) (by decide +kernel))) (by decide +kernel), in_X10, by decide +kernel⟩
theorem me_X10_checkTrial : jMe yX10_checkTrial cX10_checkTrial 1 none 1 := ⟨BW_of (List.mem_append_right _ (List.mem_of_getElem? (i := 895) (by decide +kernel))) (by decide +kernel), in_X10, by decide +kernel⟩
theorem me_X10_checkVariant : jMe yX10_checkVariant cX10_checkVariant 1 none 1 := ⟨BW_of (List.mem_append_right _ (List.mem_of_getElem? (i := 773) (by decide +kernel))) (by decide +kernel), in_X10, by decide +kernel⟩
theorem me_X10_differ : jMe yX10_differ cX10_differ 3 (some .boolean) 2 := ⟨BW_of (List.mem_append_right _ (List.mem_of_getElem? (i := 644) (by decide +kernel))) (by decide +kernel), in_X10, by decide +kernel⟩
theorem kc_J6_265 : Cond.constant RJ6 265 (1431655765) ∈ BW := BW_of (List.mem_append_right _ (List.mem_of_getElem? (i := 79) (by decide +kernel))) (by decide +kernel)
theorem kc_J6_266 : Cond.constant RJ6 266 (858993459) ∈ BW := BW_of (List.mem_append_right _ (List.mem_of_getElem? (i := 80) (by decide +kernel))) (by decide +kernel)
theorem kc_J6_267 : Cond.constant RJ6 267 (252645135) ∈ BW := BW_of (List.mem_append_right _ (List.mem_of_getElem? (i := 81) (by decide +kernel))) (by decide +kernel)
theorem in_J6 : Cond.initialized RJ6 ∈ BW := BW_of (List.mem_append_right _ (List.mem_of_getElem? (i := 5) (by decide +kernel))) (by decide +kernel)
theorem me_J6_bitCount_0f7a4 : jMe yJ6_bitCount_0f7a4 cJ6_bitCount_0f7a4 1 (some .int) 1 := ⟨BW_of (List.mem_append_right _ (List.mem_of_getElem? (i := 78) (by decide +kernel))) (by decide +kernel), in_J6, by decide +kernel⟩
theorem fl_X8_15 : Cond.fieldLink RX8 15 "FlagChamber$Text" "length" "I" ∈ BW := BW_of (List.mem_append_right _ (List.mem_of_getElem? (i := 134) (by decide +kernel))) (by decide +kernel)
theorem fl_X8_9 : Cond.fieldLink RX8 9 "FlagChamber$Text" "signs" "[C" ∈ BW := BW_of (List.mem_append_right _ (List.mem_of_getElem? (i := 132) (by decide +kernel))) (by decide +kernel)
set_option maxRecDepth 100000 in
theorem cf_X8 : jCl 9 RX8 TX8 2 tyX8 := by
  have h : ∀ w ∈ u_ws RX8 TX8 2, w ∈ lw_tbl := by decide +kernel
  have g : (u_ws RX8 TX8 2).all goodWord = true := by decide +kernel
  exact ⟨rfl, fun w hw => BW_of (h w hw) (List.all_eq_true.mp g w hw), tyX8_ok, nmX8⟩
theorem in_X8 : Cond.initialized RX8 ∈ BW := BW_of (List.mem_append_right _ (List.mem_of_getElem? (i := 8) (by decide +kernel))) (by decide +kernel)
theorem me_X8_signAt : jMe yX8_signAt cX8_signAt 2 (some .int) 1 := ⟨BW_of (List.mem_append_right _ (List.mem_of_getElem? (i := 419) (by decide +kernel))) (by decide +kernel), in_X8, by decide +kernel⟩
theorem ml_X8_19 : Cond.methodLink RX8 19 yX8_signAt ∈ BW := BW_of (List.mem_append_right _ (List.mem_of_getElem? (i := 432) (by decide +kernel))) (by decide +kernel)
theorem im_X8_signAt : Cond.instanceMethod yX8_signAt ∈ BW := BW_of (List.mem_append_right _ (List.mem_of_getElem? (i := 417) (by decide +kernel))) (by decide +kernel)
theorem iv_X8_signAt : Cond.instanceMethod yX8_signAt ∈ BW ∧ Cond.selects (yX8_signAt).cls yX8_signAt yX8_signAt ∈ BW := ⟨im_X8_signAt, BW_of (List.mem_append_right _ (List.mem_of_getElem? (i := 418) (by decide +kernel))) (by decide +kernel)⟩
theorem me_X8_digitAt : jMe yX8_digitAt cX8_digitAt 3 (some .int) 1 := ⟨BW_of (List.mem_append_right _ (List.mem_of_getElem? (i := 431) (by decide +kernel))) (by decide +kernel), in_X8, by decide +kernel⟩
theorem ml_X8_23 : Cond.methodLink RX8 23 yX8_digitAt ∈ BW := BW_of (List.mem_append_right _ (List.mem_of_getElem? (i := 428) (by decide +kernel))) (by decide +kernel)
theorem im_X8_digitAt : Cond.instanceMethod yX8_digitAt ∈ BW := BW_of (List.mem_append_right _ (List.mem_of_getElem? (i := 429) (by decide +kernel))) (by decide +kernel)
theorem iv_X8_digitAt : Cond.instanceMethod yX8_digitAt ∈ BW ∧ Cond.selects (yX8_digitAt).cls yX8_digitAt yX8_digitAt ∈ BW := ⟨im_X8_digitAt, BW_of (List.mem_append_right _ (List.mem_of_getElem? (i := 430) (by decide +kernel))) (by decide +kernel)⟩
theorem me_X8_numberAt : jMe yX8_numberAt cX8_numberAt 4 (some .int) 1 := ⟨BW_of (List.mem_append_right _ (List.mem_of_getElem? (i := 427) (by decide +kernel))) (by decide +kernel), in_X8, by decide +kernel⟩
theorem me_X8_append : jMe yX8_append cX8_append 2 none 1 := ⟨BW_of (List.mem_append_right _ (List.mem_of_getElem? (i := 487) (by decide +kernel))) (by decide +kernel), in_X8, by decide +kernel⟩
theorem mn_X8_32 : Cond.methodLinkNest RX8 32 yX10_withBit "FlagChamber" ∈ tables_1 := List.mem_of_getElem? (i := 572) (by decide +kernel)
theorem st_X10_withBit : Cond.static yX10_withBit ∈ BW := BW_of (List.mem_append_right _ (List.mem_of_getElem? (i := 83) (by decide +kernel))) (by decide +kernel)
theorem me_X8_audiencesReferredTo : jMe yX8_audiencesReferredTo cX8_audiencesReferredTo 4 (some .int) 0 := ⟨BW_of (List.mem_append_right _ (List.mem_of_getElem? (i := 571) (by decide +kernel))) (by decide +kernel), in_X8, by decide +kernel⟩
theorem mn_X6_24 : Cond.methodLinkNest RX6 24 yX10_hasBit "FlagChamber" ∈ tables_1 := List.mem_of_getElem? (i := 443) (by decide +kernel)
theorem mn_X6_20 : Cond.methodLinkNest RX6 20 yX10_withBit "FlagChamber" ∈ tables_1 := List.mem_of_getElem? (i := 437) (by decide +kernel)
theorem fl_X6_16 : Cond.fieldLink RX6 16 "FlagChamber$People" "tags" "[I" ∈ BW := BW_of (List.mem_append_right _ (List.mem_of_getElem? (i := 47) (by decide +kernel))) (by decide +kernel)
theorem kf_23 : kIn 0 358 23 1020 := kAt (by decide +kernel)
theorem st_X10_hasBit : Cond.static yX10_hasBit ∈ BW := BW_of (List.mem_append_right _ (List.mem_of_getElem? (i := 74) (by decide +kernel))) (by decide +kernel)
theorem kf_1 : kIn 0 358 1 2 := kAt (by decide +kernel)
set_option maxRecDepth 100000 in
theorem cf_X6 : jCl 7 RX6 TX6 2 tyX6 := by
  have h : ∀ w ∈ u_ws RX6 TX6 2, w ∈ lw_tbl := by decide +kernel
  have g : (u_ws RX6 TX6 2).all goodWord = true := by decide +kernel
  exact ⟨rfl, fun w hw => BW_of (h w hw) (List.all_eq_true.mp g w hw), tyX6_ok, nmX6⟩
theorem in_X6 : Cond.initialized RX6 ∈ BW := BW_of (List.mem_append_right _ (List.mem_of_getElem? (i := 2) (by decide +kernel))) (by decide +kernel)
theorem me_X6_whoHasTag : jMe yX6_whoHasTag cX6_whoHasTag 4 (some .int) 1 := ⟨BW_of (List.mem_append_right _ (List.mem_of_getElem? (i := 442) (by decide +kernel))) (by decide +kernel), in_X6, by decide +kernel⟩
theorem fl_X6_11 : Cond.fieldLink RX6 11 "FlagChamber$People" "attributes" "[[I" ∈ BW := BW_of (List.mem_append_right _ (List.mem_of_getElem? (i := 45) (by decide +kernel))) (by decide +kernel)
theorem kf_2 : kIn 0 358 2 3 := kAt (by decide +kernel)
theorem me_X6_whoCompares : jMe yX6_whoCompares cX6_whoCompares 8 (some .int) 3 := ⟨BW_of (List.mem_append_right _ (List.mem_of_getElem? (i := 436) (by decide +kernel))) (by decide +kernel), in_X6, by decide +kernel⟩
theorem fl_X2_15 : Cond.fieldLink RX2 15 "FlagChamber$Evaluator" "metFactors" "[I" ∈ BW := BW_of (List.mem_append_right _ (List.mem_of_getElem? (i := 115) (by decide +kernel))) (by decide +kernel)
theorem kf_35 : kIn 0 358 35 1009 := kAt (by decide +kernel)
theorem fl_X2_27 : Cond.fieldLink RX2 27 "FlagChamber$Evaluator" "depth" "I" ∈ BW := BW_of (List.mem_append_right _ (List.mem_of_getElem? (i := 117) (by decide +kernel))) (by decide +kernel)
theorem fl_X2_18 : Cond.fieldLink RX2 18 "FlagChamber$Evaluator" "turned" "[I" ∈ BW := BW_of (List.mem_append_right _ (List.mem_of_getElem? (i := 116) (by decide +kernel))) (by decide +kernel)
theorem kf_36 : kIn 0 358 36 1009 := kAt (by decide +kernel)
theorem kf_33 : kIn 0 358 33 12 := kAt (by decide +kernel)
set_option maxRecDepth 100000 in
theorem cf_X2 : jCl 3 RX2 TX2 4 tyX2 := by
  have h : ∀ w ∈ u_ws RX2 TX2 4, w ∈ lw_tbl := by decide +kernel
  have g : (u_ws RX2 TX2 4).all goodWord = true := by decide +kernel
  exact ⟨rfl, fun w hw => BW_of (h w hw) (List.all_eq_true.mp g w hw), tyX2_ok, nmX2⟩
theorem in_X2 : Cond.initialized RX2 ∈ BW := BW_of (List.mem_append_right _ (List.mem_of_getElem? (i := 7) (by decide +kernel))) (by decide +kernel)
theorem me_X2_addFactor : jMe yX2_addFactor cX2_addFactor 2 none 1 := ⟨BW_of (List.mem_append_right _ (List.mem_of_getElem? (i := 423) (by decide +kernel))) (by decide +kernel), in_X2, by decide +kernel⟩
theorem fl_X2_9 : Cond.fieldLink RX2 9 "FlagChamber$Evaluator" "metTerms" "[I" ∈ BW := BW_of (List.mem_append_right _ (List.mem_of_getElem? (i := 114) (by decide +kernel))) (by decide +kernel)
theorem kf_34 : kIn 0 358 34 1009 := kAt (by decide +kernel)
theorem kc_X2_41 : Cond.constant RX2 41 (1048575) ∈ BW := BW_of (List.mem_append_right _ (List.mem_of_getElem? (i := 411) (by decide +kernel))) (by decide +kernel)
theorem me_X2_beginExpression : jMe yX2_beginExpression cX2_beginExpression 1 none 0 := ⟨BW_of (List.mem_append_right _ (List.mem_of_getElem? (i := 410) (by decide +kernel))) (by decide +kernel), in_X2, by decide +kernel⟩
theorem me_X2_whoIsIn : jMe yX2_whoIsIn cX2_whoIsIn 3 (some .int) 2 := ⟨BW_of (List.mem_append_right _ (List.mem_of_getElem? (i := 447) (by decide +kernel))) (by decide +kernel), in_X2, by decide +kernel⟩
theorem mn_X5_65 : Cond.methodLinkNest RX5 65 yX10_withBit "FlagChamber" ∈ tables_1 := List.mem_of_getElem? (i := 748) (by decide +kernel)
theorem fl_X5_23 : Cond.fieldLink RX5 23 "FlagChamber$Past" "holders" "[I" ∈ BW := BW_of (List.mem_append_right _ (List.mem_of_getElem? (i := 224) (by decide +kernel))) (by decide +kernel)
theorem fl_X5_26 : Cond.fieldLink RX5 26 "FlagChamber$Past" "frozen" "[I" ∈ BW := BW_of (List.mem_append_right _ (List.mem_of_getElem? (i := 226) (by decide +kernel))) (by decide +kernel)
set_option maxRecDepth 100000 in
theorem cf_X5 : jCl 6 RX5 TX5 5 tyX5 := by
  have h : ∀ w ∈ u_ws RX5 TX5 5, w ∈ lw_tbl := by decide +kernel
  have g : (u_ws RX5 TX5 5).all goodWord = true := by decide +kernel
  exact ⟨rfl, fun w hw => BW_of (h w hw) (List.all_eq_true.mp g w hw), tyX5_ok, nmX5⟩
theorem in_X5 : Cond.initialized RX5 ∈ BW := BW_of (List.mem_append_right _ (List.mem_of_getElem? (i := 12) (by decide +kernel))) (by decide +kernel)
theorem me_X5_addHolder : jMe yX5_addHolder cX5_addHolder 4 none 3 := ⟨BW_of (List.mem_append_right _ (List.mem_of_getElem? (i := 747) (by decide +kernel))) (by decide +kernel), in_X5, by decide +kernel⟩
end WRD
