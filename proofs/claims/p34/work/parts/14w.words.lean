section WRD
theorem ml_X0_51 : Cond.methodLink RX0 51 yX7_findFault ∈ BW := BW_of (List.mem_append_right _ (List.mem_of_getElem? (i := 512) (by decide +kernel))) (by decide +kernel)
theorem ml_X7_23 : Cond.methodLink RX7 23 yX8_signAt ∈ BW := BW_of (List.mem_append_right _ (List.mem_of_getElem? (i := 516) (by decide +kernel))) (by decide +kernel)
theorem ml_X7_27 : Cond.methodLink RX7 27 yX7_stateAfter ∈ BW := BW_of (List.mem_append_right _ (List.mem_of_getElem? (i := 517) (by decide +kernel))) (by decide +kernel)
theorem ml_X7_30 : Cond.methodLink RX7 30 yX7_stateInFactor ∈ BW := BW_of (List.mem_append_right _ (List.mem_of_getElem? (i := 521) (by decide +kernel))) (by decide +kernel)
theorem ml_X7_33 : Cond.methodLink RX7 33 yX7_stateBehindFactor ∈ BW := BW_of (List.mem_append_right _ (List.mem_of_getElem? (i := 525) (by decide +kernel))) (by decide +kernel)
theorem ml_X0_55 : Cond.methodLink RX0 55 yX0_faultOf ∈ BW := BW_of (List.mem_append_right _ (List.mem_of_getElem? (i := 544) (by decide +kernel))) (by decide +kernel)
theorem ml_X0_59 : Cond.methodLink RX0 59 yX8_audiencesReferredTo ∈ BW := BW_of (List.mem_append_right _ (List.mem_of_getElem? (i := 545) (by decide +kernel))) (by decide +kernel)
theorem ml_X0_63 : Cond.methodLink RX0 63 yX4_wouldLoop ∈ BW := BW_of (List.mem_append_right _ (List.mem_of_getElem? (i := 550) (by decide +kernel))) (by decide +kernel)
theorem ml_X8_23 : Cond.methodLink RX8 23 yX8_digitAt ∈ BW := BW_of (List.mem_append_right _ (List.mem_of_getElem? (i := 429) (by decide +kernel))) (by decide +kernel)
theorem mn_X8_32 : Cond.methodLinkNest RX8 32 yX10_withBit "FlagChamber" ∈ tables_1 := List.mem_of_getElem? (i := 549) (by decide +kernel)
theorem ml_X8_19 : Cond.methodLink RX8 19 yX8_signAt ∈ BW := BW_of (List.mem_append_right _ (List.mem_of_getElem? (i := 433) (by decide +kernel))) (by decide +kernel)
theorem mn_X4_19 : Cond.methodLinkNest RX4 19 yX10_hasBit "FlagChamber" ∈ tables_1 := List.mem_of_getElem? (i := 72) (by decide +kernel)
theorem ml_X0_70 : Cond.methodLink RX0 70 yX2_whoMeets ∈ BW := BW_of (List.mem_append_right _ (List.mem_of_getElem? (i := 404) (by decide +kernel))) (by decide +kernel)
theorem ml_X2_30 : Cond.methodLink RX2 30 yX2_beginExpression ∈ BW := BW_of (List.mem_append_right _ (List.mem_of_getElem? (i := 408) (by decide +kernel))) (by decide +kernel)
theorem ml_X2_33 : Cond.methodLink RX2 33 yX2_readSign ∈ BW := BW_of (List.mem_append_right _ (List.mem_of_getElem? (i := 413) (by decide +kernel))) (by decide +kernel)
theorem ml_X2_37 : Cond.methodLink RX2 37 yX8_signAt ∈ BW := BW_of (List.mem_append_right _ (List.mem_of_getElem? (i := 417) (by decide +kernel))) (by decide +kernel)
theorem ml_X2_42 : Cond.methodLink RX2 42 yX2_addFactor ∈ BW := BW_of (List.mem_append_right _ (List.mem_of_getElem? (i := 421) (by decide +kernel))) (by decide +kernel)
theorem ml_X2_46 : Cond.methodLink RX2 46 yX8_numberAt ∈ BW := BW_of (List.mem_append_right _ (List.mem_of_getElem? (i := 425) (by decide +kernel))) (by decide +kernel)
theorem ml_X2_49 : Cond.methodLink RX2 49 yX6_whoCompares ∈ BW := BW_of (List.mem_append_right _ (List.mem_of_getElem? (i := 434) (by decide +kernel))) (by decide +kernel)
theorem ml_X2_55 : Cond.methodLink RX2 55 yX8_digitAt ∈ BW := BW_of (List.mem_append_right _ (List.mem_of_getElem? (i := 439) (by decide +kernel))) (by decide +kernel)
theorem ml_X2_58 : Cond.methodLink RX2 58 yX6_whoHasTag ∈ BW := BW_of (List.mem_append_right _ (List.mem_of_getElem? (i := 440) (by decide +kernel))) (by decide +kernel)
theorem ml_X2_61 : Cond.methodLink RX2 61 yX2_whoIsIn ∈ BW := BW_of (List.mem_append_right _ (List.mem_of_getElem? (i := 445) (by decide +kernel))) (by decide +kernel)
theorem mn_X6_20 : Cond.methodLinkNest RX6 20 yX10_withBit "FlagChamber" ∈ tables_1 := List.mem_of_getElem? (i := 438) (by decide +kernel)
theorem mn_X6_24 : Cond.methodLinkNest RX6 24 yX10_hasBit "FlagChamber" ∈ tables_1 := List.mem_of_getElem? (i := 444) (by decide +kernel)
theorem ml_X0_74 : Cond.methodLink RX0 74 yX8_copy ∈ BW := BW_of (List.mem_append_right _ (List.mem_of_getElem? (i := 563) (by decide +kernel))) (by decide +kernel)
theorem ml_X0_78 : Cond.methodLink RX0 78 yX4_point ∈ BW := BW_of (List.mem_append_right _ (List.mem_of_getElem? (i := 570) (by decide +kernel))) (by decide +kernel)
theorem ml_X0_82 : Cond.methodLink RX0 82 arraycopyName ∈ BW := BW_of (List.mem_append_right _ (List.mem_of_getElem? (i := 574) (by decide +kernel))) (by decide +kernel)
theorem ml_X8_26 : Cond.methodLink RX8 26 arraycopyName ∈ BW := BW_of (List.mem_append_right _ (List.mem_of_getElem? (i := 567) (by decide +kernel))) (by decide +kernel)
theorem ml_X4_16 : Cond.methodLink RX4 16 yX4_arrange ∈ BW := BW_of (List.mem_append_right _ (List.mem_of_getElem? (i := 68) (by decide +kernel))) (by decide +kernel)
theorem ml_X4_25 : Cond.methodLink RX4 25 yJ6_bitCount_0f7a4 ∈ BW := BW_of (List.mem_append_right _ (List.mem_of_getElem? (i := 75) (by decide +kernel))) (by decide +kernel)
theorem mn_X4_31 : Cond.methodLinkNest RX4 31 yX10_withBit "FlagChamber" ∈ tables_1 := List.mem_of_getElem? (i := 81) (by decide +kernel)
theorem ml_X3_22 : Cond.methodLink RX3 22 yX3_outcomeOf ∈ BW := BW_of (List.mem_append_right _ (List.mem_of_getElem? (i := 600) (by decide +kernel))) (by decide +kernel)
theorem mn_X3_26 : Cond.methodLinkNest RX3 26 yX10_hasBit "FlagChamber" ∈ tables_1 := List.mem_of_getElem? (i := 595) (by decide +kernel)
theorem ml_X5_32 : Cond.methodLink RX5 32 yX5_forgetTrial ∈ BW := BW_of (List.mem_append_right _ (List.mem_of_getElem? (i := 211) (by decide +kernel))) (by decide +kernel)
theorem ml_X5_36 : Cond.methodLink RX5 36 yJ7_fill_53178 ∈ BW := BW_of (List.mem_append_right _ (List.mem_of_getElem? (i := 215) (by decide +kernel))) (by decide +kernel)
theorem ml_X5_48 : Cond.methodLink RX5 48 yX5_noteShowing ∈ BW := BW_of (List.mem_append_right _ (List.mem_of_getElem? (i := 830) (by decide +kernel))) (by decide +kernel)
theorem ml_X5_61 : Cond.methodLink RX5 61 yX5_addHolder ∈ BW := BW_of (List.mem_append_right _ (List.mem_of_getElem? (i := 834) (by decide +kernel))) (by decide +kernel)
theorem mn_X5_65 : Cond.methodLinkNest RX5 65 yX10_withBit "FlagChamber" ∈ tables_1 := List.mem_of_getElem? (i := 838) (by decide +kernel)
theorem ml_X5_69 : Cond.methodLink RX5 69 yX5_holdWhatWasShownBy ∈ BW := BW_of (List.mem_append_right _ (List.mem_of_getElem? (i := 839) (by decide +kernel))) (by decide +kernel)
theorem ml_X5_72 : Cond.methodLink RX5 72 yX5_releaseAllOf ∈ BW := BW_of (List.mem_append_right _ (List.mem_of_getElem? (i := 843) (by decide +kernel))) (by decide +kernel)
theorem mn_X5_75 : Cond.methodLinkNest RX5 75 yX10_hasBit "FlagChamber" ∈ tables_1 := List.mem_of_getElem? (i := 878) (by decide +kernel)
theorem ml_X9_19 : Cond.methodLink RX9 19 yX9_drawArm ∈ BW := BW_of (List.mem_append_right _ (List.mem_of_getElem? (i := 609) (by decide +kernel))) (by decide +kernel)
theorem ml_X9_23 : Cond.methodLink RX9 23 yX9_sumOfShares ∈ BW := BW_of (List.mem_append_right _ (List.mem_of_getElem? (i := 613) (by decide +kernel))) (by decide +kernel)
theorem ml_X10_71 : Cond.methodLink RX10 71 yX10_checkPerson ∈ BW := BW_of (List.mem_append_right _ (List.mem_of_getElem? (i := 323) (by decide +kernel))) (by decide +kernel)
theorem ml_X10_74 : Cond.methodLink RX10 74 yX10_checkRange ∈ BW := BW_of (List.mem_append_right _ (List.mem_of_getElem? (i := 326) (by decide +kernel))) (by decide +kernel)
theorem ml_X10_78 : Cond.methodLink RX10 78 yX10_mostOf ∈ BW := BW_of (List.mem_append_right _ (List.mem_of_getElem? (i := 397) (by decide +kernel))) (by decide +kernel)
theorem ml_X10_86 : Cond.methodLink RX10 86 yX0_settle ∈ BW := BW_of (List.mem_append_right _ (List.mem_of_getElem? (i := 400) (by decide +kernel))) (by decide +kernel)
theorem ml_X10_93 : Cond.methodLink RX10 93 yX10_hasBit ∈ BW := BW_of (List.mem_append_right _ (List.mem_of_getElem? (i := 457) (by decide +kernel))) (by decide +kernel)
theorem ml_X10_97 : Cond.methodLink RX10 97 yX10_withBit ∈ BW := BW_of (List.mem_append_right _ (List.mem_of_getElem? (i := 458) (by decide +kernel))) (by decide +kernel)
theorem ml_X10_101 : Cond.methodLink RX10 101 yX10_checkAudience ∈ BW := BW_of (List.mem_append_right _ (List.mem_of_getElem? (i := 467) (by decide +kernel))) (by decide +kernel)
theorem ml_X10_121 : Cond.methodLink RX10 121 yX8_append ∈ BW := BW_of (List.mem_append_right _ (List.mem_of_getElem? (i := 486) (by decide +kernel))) (by decide +kernel)
theorem ml_X10_129 : Cond.methodLink RX10 129 Lib.Math.max.name ∈ BW := BW_of (List.mem_append_right _ (List.mem_of_getElem? (i := 498) (by decide +kernel))) (by decide +kernel)
theorem ml_X10_143 : Cond.methodLink RX10 143 yX0_faultOf ∈ BW := BW_of (List.mem_append_right _ (List.mem_of_getElem? (i := 508) (by decide +kernel))) (by decide +kernel)
theorem ml_X10_146 : Cond.methodLink RX10 146 yX10_checkSettable ∈ BW := BW_of (List.mem_append_right _ (List.mem_of_getElem? (i := 536) (by decide +kernel))) (by decide +kernel)
theorem ml_X10_149 : Cond.methodLink RX10 149 yX0_tryDraft ∈ BW := BW_of (List.mem_append_right _ (List.mem_of_getElem? (i := 555) (by decide +kernel))) (by decide +kernel)
theorem ml_X10_159 : Cond.methodLink RX10 159 yX0_adoptDraft ∈ BW := BW_of (List.mem_append_right _ (List.mem_of_getElem? (i := 559) (by decide +kernel))) (by decide +kernel)
theorem ml_X10_162 : Cond.methodLink RX10 162 yJ6_bitCount_0f7a4 ∈ BW := BW_of (List.mem_append_right _ (List.mem_of_getElem? (i := 575) (by decide +kernel))) (by decide +kernel)
theorem ml_X10_305 : Cond.methodLink RX10 305 yX0_canBeSet ∈ BW := BW_of (List.mem_append_right _ (List.mem_of_getElem? (i := 540) (by decide +kernel))) (by decide +kernel)
theorem ml_X10_167 : Cond.methodLink RX10 167 yX10_findViews ∈ BW := BW_of (List.mem_append_right _ (List.mem_of_getElem? (i := 583) (by decide +kernel))) (by decide +kernel)
theorem ml_X10_171 : Cond.methodLink RX10 171 yX10_differ ∈ BW := BW_of (List.mem_append_right _ (List.mem_of_getElem? (i := 619) (by decide +kernel))) (by decide +kernel)
theorem ml_X10_327 : Cond.methodLink RX10 327 yX10_decidedView ∈ BW := BW_of (List.mem_append_right _ (List.mem_of_getElem? (i := 587) (by decide +kernel))) (by decide +kernel)
theorem ml_X10_234 : Cond.methodLink RX10 234 yX3_decidingRule ∈ BW := BW_of (List.mem_append_right _ (List.mem_of_getElem? (i := 591) (by decide +kernel))) (by decide +kernel)
theorem ml_X10_331 : Cond.methodLink RX10 331 yX3_trialOf ∈ BW := BW_of (List.mem_append_right _ (List.mem_of_getElem? (i := 596) (by decide +kernel))) (by decide +kernel)
theorem ml_X10_190 : Cond.methodLink RX10 190 yX3_outcomeOf ∈ BW := BW_of (List.mem_append_right _ (List.mem_of_getElem? (i := 604) (by decide +kernel))) (by decide +kernel)
theorem ml_X10_318 : Cond.methodLink RX10 318 yX9_armFor ∈ BW := BW_of (List.mem_append_right _ (List.mem_of_getElem? (i := 605) (by decide +kernel))) (by decide +kernel)
theorem ml_X10_175 : Cond.methodLink RX10 175 yX10_checkFlag ∈ BW := BW_of (List.mem_append_right _ (List.mem_of_getElem? (i := 630) (by decide +kernel))) (by decide +kernel)
theorem ml_X10_185 : Cond.methodLink RX10 185 yX3_insert ∈ BW := BW_of (List.mem_append_right _ (List.mem_of_getElem? (i := 650) (by decide +kernel))) (by decide +kernel)
theorem ml_X10_193 : Cond.methodLink RX10 193 yX3_delete ∈ BW := BW_of (List.mem_append_right _ (List.mem_of_getElem? (i := 662) (by decide +kernel))) (by decide +kernel)
theorem ml_X10_201 : Cond.methodLink RX10 201 yX4_wouldLoop ∈ BW := BW_of (List.mem_append_right _ (List.mem_of_getElem? (i := 674) (by decide +kernel))) (by decide +kernel)
theorem ml_X10_206 : Cond.methodLink RX10 206 yX4_point ∈ BW := BW_of (List.mem_append_right _ (List.mem_of_getElem? (i := 676) (by decide +kernel))) (by decide +kernel)
theorem ml_X10_210 : Cond.methodLink RX10 210 yX10_viewNow ∈ BW := BW_of (List.mem_append_right _ (List.mem_of_getElem? (i := 855) (by decide +kernel))) (by decide +kernel)
theorem ml_X10_238 : Cond.methodLink RX10 238 yX10_checkVariant ∈ BW := BW_of (List.mem_append_right _ (List.mem_of_getElem? (i := 711) (by decide +kernel))) (by decide +kernel)
theorem ml_X10_256 : Cond.methodLink RX10 256 yX10_checkTrial ∈ BW := BW_of (List.mem_append_right _ (List.mem_of_getElem? (i := 684) (by decide +kernel))) (by decide +kernel)
theorem ml_X10_259 : Cond.methodLink RX10 259 yX10_checkNotHeld ∈ BW := BW_of (List.mem_append_right _ (List.mem_of_getElem? (i := 687) (by decide +kernel))) (by decide +kernel)
theorem ml_X10_262 : Cond.methodLink RX10 262 yX9_sumOfShares ∈ BW := BW_of (List.mem_append_right _ (List.mem_of_getElem? (i := 692) (by decide +kernel))) (by decide +kernel)
theorem ml_X10_265 : Cond.methodLink RX10 265 yX9_share ∈ BW := BW_of (List.mem_append_right _ (List.mem_of_getElem? (i := 693) (by decide +kernel))) (by decide +kernel)
theorem ml_X10_272 : Cond.methodLink RX10 272 yX10_armNow ∈ BW := BW_of (List.mem_append_right _ (List.mem_of_getElem? (i := 714) (by decide +kernel))) (by decide +kernel)
theorem ml_X10_334 : Cond.methodLink RX10 334 yX10_needsZero ∈ BW := BW_of (List.mem_append_right _ (List.mem_of_getElem? (i := 902) (by decide +kernel))) (by decide +kernel)
theorem fl_X8_15 : Cond.fieldLink RX8 15 "FlagChamber$Text" "length" "I" ∈ BW := BW_of (List.mem_append_right _ (List.mem_of_getElem? (i := 133) (by decide +kernel))) (by decide +kernel)
theorem fl_X8_9 : Cond.fieldLink RX8 9 "FlagChamber$Text" "signs" "[C" ∈ BW := BW_of (List.mem_append_right _ (List.mem_of_getElem? (i := 131) (by decide +kernel))) (by decide +kernel)
set_option maxRecDepth 100000 in
theorem cf_X8 : jCl 9 RX8 TX8 2 tyX8 := by
  have h : ∀ w ∈ u_ws RX8 TX8 2, w ∈ lw_tbl := by decide +kernel
  have g : (u_ws RX8 TX8 2).all goodWord = true := by decide +kernel
  exact ⟨rfl, fun w hw => BW_of (h w hw) (List.all_eq_true.mp g w hw), tyX8_ok, nmX8⟩
theorem in_X8 : Cond.initialized RX8 ∈ BW := BW_of (List.mem_append_right _ (List.mem_of_getElem? (i := 8) (by decide +kernel))) (by decide +kernel)
theorem me_X8_signAt : jMe yX8_signAt cX8_signAt 2 (some .int) 1 := ⟨BW_of (List.mem_append_right _ (List.mem_of_getElem? (i := 420) (by decide +kernel))) (by decide +kernel), in_X8, by decide +kernel⟩
theorem fl_X7_15 : Cond.fieldLink RX7 15 "FlagChamber$Reader" "openBrackets" "I" ∈ BW := BW_of (List.mem_append_right _ (List.mem_of_getElem? (i := 101) (by decide +kernel))) (by decide +kernel)
set_option maxRecDepth 100000 in
theorem cf_X7 : jCl 8 RX7 TX7 2 tyX7 := by
  have h : ∀ w ∈ u_ws RX7 TX7 2, w ∈ lw_tbl := by decide +kernel
  have g : (u_ws RX7 TX7 2).all goodWord = true := by decide +kernel
  exact ⟨rfl, fun w hw => BW_of (h w hw) (List.all_eq_true.mp g w hw), tyX7_ok, nmX7⟩
theorem in_X7 : Cond.initialized RX7 ∈ BW := BW_of (List.mem_append_right _ (List.mem_of_getElem? (i := 6) (by decide +kernel))) (by decide +kernel)
theorem me_X7_stateInFactor : jMe yX7_stateInFactor cX7_stateInFactor 2 (some .int) 1 := ⟨BW_of (List.mem_append_right _ (List.mem_of_getElem? (i := 524) (by decide +kernel))) (by decide +kernel), in_X7, by decide +kernel⟩
theorem me_X7_stateBehindFactor : jMe yX7_stateBehindFactor cX7_stateBehindFactor 2 (some .int) 1 := ⟨BW_of (List.mem_append_right _ (List.mem_of_getElem? (i := 528) (by decide +kernel))) (by decide +kernel), in_X7, by decide +kernel⟩
theorem fl_X7_11 : Cond.fieldLink RX7 11 "FlagChamber$Reader" "state" "I" ∈ BW := BW_of (List.mem_append_right _ (List.mem_of_getElem? (i := 100) (by decide +kernel))) (by decide +kernel)
theorem im_X7_stateInFactor : Cond.instanceMethod yX7_stateInFactor ∈ BW := BW_of (List.mem_append_right _ (List.mem_of_getElem? (i := 523) (by decide +kernel))) (by decide +kernel)
theorem iv_X7_stateInFactor : Cond.instanceMethod yX7_stateInFactor ∈ BW ∧ Cond.selects (yX7_stateInFactor).cls yX7_stateInFactor yX7_stateInFactor ∈ BW := ⟨im_X7_stateInFactor, BW_of (List.mem_append_left _ (List.mem_of_getElem? (i := 8) (by decide +kernel))) (by decide +kernel)⟩
theorem im_X7_stateBehindFactor : Cond.instanceMethod yX7_stateBehindFactor ∈ BW := BW_of (List.mem_append_right _ (List.mem_of_getElem? (i := 527) (by decide +kernel))) (by decide +kernel)
theorem iv_X7_stateBehindFactor : Cond.instanceMethod yX7_stateBehindFactor ∈ BW ∧ Cond.selects (yX7_stateBehindFactor).cls yX7_stateBehindFactor yX7_stateBehindFactor ∈ BW := ⟨im_X7_stateBehindFactor, BW_of (List.mem_append_left _ (List.mem_of_getElem? (i := 9) (by decide +kernel))) (by decide +kernel)⟩
theorem me_X7_stateAfter : jMe yX7_stateAfter cX7_stateAfter 2 (some .int) 1 := ⟨BW_of (List.mem_append_right _ (List.mem_of_getElem? (i := 520) (by decide +kernel))) (by decide +kernel), in_X7, by decide +kernel⟩
theorem fn_X7_18 : Cond.fieldLinkNest RX7 18 "FlagChamber$Text" "length" "I" "FlagChamber" ∈ tables_1 := List.mem_of_getElem? (i := 134) (by decide +kernel)
theorem im_X7_stateAfter : Cond.instanceMethod yX7_stateAfter ∈ BW := BW_of (List.mem_append_right _ (List.mem_of_getElem? (i := 519) (by decide +kernel))) (by decide +kernel)
theorem iv_X7_stateAfter : Cond.instanceMethod yX7_stateAfter ∈ BW ∧ Cond.selects (yX7_stateAfter).cls yX7_stateAfter yX7_stateAfter ∈ BW := ⟨im_X7_stateAfter, BW_of (List.mem_append_left _ (List.mem_of_getElem? (i := 7) (by decide +kernel))) (by decide +kernel)⟩
theorem im_X8_signAt : Cond.instanceMethod yX8_signAt ∈ BW := BW_of (List.mem_append_right _ (List.mem_of_getElem? (i := 418) (by decide +kernel))) (by decide +kernel)
theorem iv_X8_signAt : Cond.instanceMethod yX8_signAt ∈ BW ∧ Cond.selects (yX8_signAt).cls yX8_signAt yX8_signAt ∈ BW := ⟨im_X8_signAt, BW_of (List.mem_append_right _ (List.mem_of_getElem? (i := 419) (by decide +kernel))) (by decide +kernel)⟩
theorem me_X7_findFault : jMe yX7_findFault cX7_findFault 3 (some .int) 1 := ⟨BW_of (List.mem_append_right _ (List.mem_of_getElem? (i := 515) (by decide +kernel))) (by decide +kernel), in_X7, by decide +kernel⟩
theorem fl_X0_39 : Cond.fieldLink RX0 39 "FlagChamber$Audiences" "reader" "LFlagChamber$Reader;" ∈ BW := BW_of (List.mem_append_right _ (List.mem_of_getElem? (i := 150) (by decide +kernel))) (by decide +kernel)
theorem fl_X0_11 : Cond.fieldLink RX0 11 "FlagChamber$Audiences" "drafts" "[LFlagChamber$Text;" ∈ BW := BW_of (List.mem_append_right _ (List.mem_of_getElem? (i := 142) (by decide +kernel))) (by decide +kernel)
theorem im_X7_findFault : Cond.instanceMethod yX7_findFault ∈ BW := BW_of (List.mem_append_right _ (List.mem_of_getElem? (i := 513) (by decide +kernel))) (by decide +kernel)
theorem iv_X7_findFault : Cond.instanceMethod yX7_findFault ∈ BW ∧ Cond.selects (yX7_findFault).cls yX7_findFault yX7_findFault ∈ BW := ⟨im_X7_findFault, BW_of (List.mem_append_right _ (List.mem_of_getElem? (i := 514) (by decide +kernel))) (by decide +kernel)⟩
set_option maxRecDepth 100000 in
theorem cf_X0 : jCl 1 RX0 TX0 7 tyX0 := by
  have h : ∀ w ∈ u_ws RX0 TX0 7, w ∈ lw_tbl := by decide +kernel
  have g : (u_ws RX0 TX0 7).all goodWord = true := by decide +kernel
  exact ⟨rfl, fun w hw => BW_of (h w hw) (List.all_eq_true.mp g w hw), tyX0_ok, nmX0⟩
theorem in_X0 : Cond.initialized RX0 ∈ BW := BW_of (List.mem_append_right _ (List.mem_of_getElem? (i := 3) (by decide +kernel))) (by decide +kernel)
theorem me_X0_faultOf : jMe yX0_faultOf cX0_faultOf 2 (some .int) 1 := ⟨BW_of (List.mem_append_right _ (List.mem_of_getElem? (i := 511) (by decide +kernel))) (by decide +kernel), in_X0, by decide +kernel⟩
theorem me_X8_digitAt : jMe yX8_digitAt cX8_digitAt 3 (some .int) 1 := ⟨BW_of (List.mem_append_right _ (List.mem_of_getElem? (i := 432) (by decide +kernel))) (by decide +kernel), in_X8, by decide +kernel⟩
theorem in_X10 : Cond.initialized RX10 ∈ BW := BW_of (List.mem_append_right _ (List.mem_of_getElem? (i := 1) (by decide +kernel))) (by decide +kernel)
theorem me_X10_withBit : jMe yX10_withBit cX10_withBit 3 (some .int) 3 := ⟨BW_of (List.mem_append_right _ (List.mem_of_getElem? (i := 83) (by decide +kernel))) (by decide +kernel), in_X10, by decide +kernel⟩
theorem st_X10_withBit : Cond.static yX10_withBit ∈ BW := BW_of (List.mem_append_right _ (List.mem_of_getElem? (i := 82) (by decide +kernel))) (by decide +kernel)
theorem im_X8_digitAt : Cond.instanceMethod yX8_digitAt ∈ BW := BW_of (List.mem_append_right _ (List.mem_of_getElem? (i := 430) (by decide +kernel))) (by decide +kernel)
theorem iv_X8_digitAt : Cond.instanceMethod yX8_digitAt ∈ BW ∧ Cond.selects (yX8_digitAt).cls yX8_digitAt yX8_digitAt ∈ BW := ⟨im_X8_digitAt, BW_of (List.mem_append_right _ (List.mem_of_getElem? (i := 431) (by decide +kernel))) (by decide +kernel)⟩
theorem me_X8_audiencesReferredTo : jMe yX8_audiencesReferredTo cX8_audiencesReferredTo 4 (some .int) 0 := ⟨BW_of (List.mem_append_right _ (List.mem_of_getElem? (i := 548) (by decide +kernel))) (by decide +kernel), in_X8, by decide +kernel⟩
theorem me_X10_hasBit : jMe yX10_hasBit cX10_hasBit 2 (some .boolean) 2 := ⟨BW_of (List.mem_append_right _ (List.mem_of_getElem? (i := 74) (by decide +kernel))) (by decide +kernel), in_X10, by decide +kernel⟩
theorem fl_X4_7 : Cond.fieldLink RX4 7 "FlagChamber$Graph" "targets" "[I" ∈ BW := BW_of (List.mem_append_right _ (List.mem_of_getElem? (i := 84) (by decide +kernel))) (by decide +kernel)
theorem st_X10_hasBit : Cond.static yX10_hasBit ∈ BW := BW_of (List.mem_append_right _ (List.mem_of_getElem? (i := 73) (by decide +kernel))) (by decide +kernel)
set_option maxRecDepth 100000 in
theorem cf_X4 : jCl 5 RX4 TX4 2 tyX4 := by
  have h : ∀ w ∈ u_ws RX4 TX4 2, w ∈ lw_tbl := by decide +kernel
  have g : (u_ws RX4 TX4 2).all goodWord = true := by decide +kernel
  exact ⟨rfl, fun w hw => BW_of (h w hw) (List.all_eq_true.mp g w hw), tyX4_ok, nmX4⟩
theorem in_X4 : Cond.initialized RX4 ∈ BW := BW_of (List.mem_append_right _ (List.mem_of_getElem? (i := 4) (by decide +kernel))) (by decide +kernel)
theorem me_X4_wouldLoop : jMe yX4_wouldLoop cX4_wouldLoop 6 (some .boolean) 2 := ⟨BW_of (List.mem_append_right _ (List.mem_of_getElem? (i := 553) (by decide +kernel))) (by decide +kernel), in_X4, by decide +kernel⟩
theorem fl_X0_25 : Cond.fieldLink RX0 25 "FlagChamber$Audiences" "references" "LFlagChamber$Graph;" ∈ BW := BW_of (List.mem_append_right _ (List.mem_of_getElem? (i := 145) (by decide +kernel))) (by decide +kernel)
theorem im_X4_wouldLoop : Cond.instanceMethod yX4_wouldLoop ∈ BW := BW_of (List.mem_append_right _ (List.mem_of_getElem? (i := 551) (by decide +kernel))) (by decide +kernel)
theorem iv_X4_wouldLoop : Cond.instanceMethod yX4_wouldLoop ∈ BW ∧ Cond.selects (yX4_wouldLoop).cls yX4_wouldLoop yX4_wouldLoop ∈ BW := ⟨im_X4_wouldLoop, BW_of (List.mem_append_right _ (List.mem_of_getElem? (i := 552) (by decide +kernel))) (by decide +kernel)⟩
theorem im_X8_audiencesReferredTo : Cond.instanceMethod yX8_audiencesReferredTo ∈ BW := BW_of (List.mem_append_right _ (List.mem_of_getElem? (i := 546) (by decide +kernel))) (by decide +kernel)
theorem iv_X8_audiencesReferredTo : Cond.instanceMethod yX8_audiencesReferredTo ∈ BW ∧ Cond.selects (yX8_audiencesReferredTo).cls yX8_audiencesReferredTo yX8_audiencesReferredTo ∈ BW := ⟨im_X8_audiencesReferredTo, BW_of (List.mem_append_right _ (List.mem_of_getElem? (i := 547) (by decide +kernel))) (by decide +kernel)⟩
theorem im_X0_faultOf : Cond.instanceMethod yX0_faultOf ∈ BW := BW_of (List.mem_append_right _ (List.mem_of_getElem? (i := 509) (by decide +kernel))) (by decide +kernel)
theorem iv_X0_faultOf : Cond.instanceMethod yX0_faultOf ∈ BW ∧ Cond.selects (yX0_faultOf).cls yX0_faultOf yX0_faultOf ∈ BW := ⟨im_X0_faultOf, BW_of (List.mem_append_right _ (List.mem_of_getElem? (i := 510) (by decide +kernel))) (by decide +kernel)⟩
theorem me_X0_canBeSet : jMe yX0_canBeSet cX0_canBeSet 2 (some .boolean) 1 := ⟨BW_of (List.mem_append_right _ (List.mem_of_getElem? (i := 543) (by decide +kernel))) (by decide +kernel), in_X0, by decide +kernel⟩
theorem fl_X2_9 : Cond.fieldLink RX2 9 "FlagChamber$Evaluator" "metTerms" "[I" ∈ BW := BW_of (List.mem_append_right _ (List.mem_of_getElem? (i := 113) (by decide +kernel))) (by decide +kernel)
theorem fl_X2_27 : Cond.fieldLink RX2 27 "FlagChamber$Evaluator" "depth" "I" ∈ BW := BW_of (List.mem_append_right _ (List.mem_of_getElem? (i := 116) (by decide +kernel))) (by decide +kernel)
theorem fl_X2_15 : Cond.fieldLink RX2 15 "FlagChamber$Evaluator" "metFactors" "[I" ∈ BW := BW_of (List.mem_append_right _ (List.mem_of_getElem? (i := 114) (by decide +kernel))) (by decide +kernel)
theorem kc_X2_41 : Cond.constant RX2 41 (1048575) ∈ BW := BW_of (List.mem_append_right _ (List.mem_of_getElem? (i := 412) (by decide +kernel))) (by decide +kernel)
theorem fl_X2_18 : Cond.fieldLink RX2 18 "FlagChamber$Evaluator" "turned" "[I" ∈ BW := BW_of (List.mem_append_right _ (List.mem_of_getElem? (i := 115) (by decide +kernel))) (by decide +kernel)
set_option maxRecDepth 100000 in
theorem cf_X2 : jCl 3 RX2 TX2 4 tyX2 := by
  have h : ∀ w ∈ u_ws RX2 TX2 4, w ∈ lw_tbl := by decide +kernel
  have g : (u_ws RX2 TX2 4).all goodWord = true := by decide +kernel
  exact ⟨rfl, fun w hw => BW_of (h w hw) (List.all_eq_true.mp g w hw), tyX2_ok, nmX2⟩
theorem in_X2 : Cond.initialized RX2 ∈ BW := BW_of (List.mem_append_right _ (List.mem_of_getElem? (i := 7) (by decide +kernel))) (by decide +kernel)
theorem me_X2_beginExpression : jMe yX2_beginExpression cX2_beginExpression 1 none 0 := ⟨BW_of (List.mem_append_right _ (List.mem_of_getElem? (i := 411) (by decide +kernel))) (by decide +kernel), in_X2, by decide +kernel⟩
theorem me_X2_addFactor : jMe yX2_addFactor cX2_addFactor 2 none 1 := ⟨BW_of (List.mem_append_right _ (List.mem_of_getElem? (i := 424) (by decide +kernel))) (by decide +kernel), in_X2, by decide +kernel⟩
theorem me_X8_numberAt : jMe yX8_numberAt cX8_numberAt 4 (some .int) 1 := ⟨BW_of (List.mem_append_right _ (List.mem_of_getElem? (i := 428) (by decide +kernel))) (by decide +kernel), in_X8, by decide +kernel⟩
theorem fl_X6_11 : Cond.fieldLink RX6 11 "FlagChamber$People" "attributes" "[[I" ∈ BW := BW_of (List.mem_append_right _ (List.mem_of_getElem? (i := 44) (by decide +kernel))) (by decide +kernel)
set_option maxRecDepth 100000 in
theorem cf_X6 : jCl 7 RX6 TX6 2 tyX6 := by
  have h : ∀ w ∈ u_ws RX6 TX6 2, w ∈ lw_tbl := by decide +kernel
  have g : (u_ws RX6 TX6 2).all goodWord = true := by decide +kernel
  exact ⟨rfl, fun w hw => BW_of (h w hw) (List.all_eq_true.mp g w hw), tyX6_ok, nmX6⟩
theorem in_X6 : Cond.initialized RX6 ∈ BW := BW_of (List.mem_append_right _ (List.mem_of_getElem? (i := 2) (by decide +kernel))) (by decide +kernel)
theorem me_X6_whoCompares : jMe yX6_whoCompares cX6_whoCompares 8 (some .int) 3 := ⟨BW_of (List.mem_append_right _ (List.mem_of_getElem? (i := 437) (by decide +kernel))) (by decide +kernel), in_X6, by decide +kernel⟩
theorem fl_X6_16 : Cond.fieldLink RX6 16 "FlagChamber$People" "tags" "[I" ∈ BW := BW_of (List.mem_append_right _ (List.mem_of_getElem? (i := 46) (by decide +kernel))) (by decide +kernel)
theorem me_X6_whoHasTag : jMe yX6_whoHasTag cX6_whoHasTag 4 (some .int) 1 := ⟨BW_of (List.mem_append_right _ (List.mem_of_getElem? (i := 443) (by decide +kernel))) (by decide +kernel), in_X6, by decide +kernel⟩
theorem me_X2_whoIsIn : jMe yX2_whoIsIn cX2_whoIsIn 3 (some .int) 2 := ⟨BW_of (List.mem_append_right _ (List.mem_of_getElem? (i := 448) (by decide +kernel))) (by decide +kernel), in_X2, by decide +kernel⟩
theorem im_X2_beginExpression : Cond.instanceMethod yX2_beginExpression ∈ BW := BW_of (List.mem_append_right _ (List.mem_of_getElem? (i := 410) (by decide +kernel))) (by decide +kernel)
theorem iv_X2_beginExpression : Cond.instanceMethod yX2_beginExpression ∈ BW ∧ Cond.selects (yX2_beginExpression).cls yX2_beginExpression yX2_beginExpression ∈ BW := ⟨im_X2_beginExpression, BW_of (List.mem_append_left _ (List.mem_of_getElem? (i := 3) (by decide +kernel))) (by decide +kernel)⟩
theorem im_X2_addFactor : Cond.instanceMethod yX2_addFactor ∈ BW := BW_of (List.mem_append_right _ (List.mem_of_getElem? (i := 423) (by decide +kernel))) (by decide +kernel)
theorem iv_X2_addFactor : Cond.instanceMethod yX2_addFactor ∈ BW ∧ Cond.selects (yX2_addFactor).cls yX2_addFactor yX2_addFactor ∈ BW := ⟨im_X2_addFactor, BW_of (List.mem_append_left _ (List.mem_of_getElem? (i := 5) (by decide +kernel))) (by decide +kernel)⟩
theorem im_X2_whoIsIn : Cond.instanceMethod yX2_whoIsIn ∈ BW := BW_of (List.mem_append_right _ (List.mem_of_getElem? (i := 447) (by decide +kernel))) (by decide +kernel)
theorem iv_X2_whoIsIn : Cond.instanceMethod yX2_whoIsIn ∈ BW ∧ Cond.selects (yX2_whoIsIn).cls yX2_whoIsIn yX2_whoIsIn ∈ BW := ⟨im_X2_whoIsIn, BW_of (List.mem_append_left _ (List.mem_of_getElem? (i := 6) (by decide +kernel))) (by decide +kernel)⟩
theorem im_X6_whoCompares : Cond.instanceMethod yX6_whoCompares ∈ BW := BW_of (List.mem_append_right _ (List.mem_of_getElem? (i := 435) (by decide +kernel))) (by decide +kernel)
theorem iv_X6_whoCompares : Cond.instanceMethod yX6_whoCompares ∈ BW ∧ Cond.selects (yX6_whoCompares).cls yX6_whoCompares yX6_whoCompares ∈ BW := ⟨im_X6_whoCompares, BW_of (List.mem_append_right _ (List.mem_of_getElem? (i := 436) (by decide +kernel))) (by decide +kernel)⟩
theorem im_X8_numberAt : Cond.instanceMethod yX8_numberAt ∈ BW := BW_of (List.mem_append_right _ (List.mem_of_getElem? (i := 426) (by decide +kernel))) (by decide +kernel)
theorem iv_X8_numberAt : Cond.instanceMethod yX8_numberAt ∈ BW ∧ Cond.selects (yX8_numberAt).cls yX8_numberAt yX8_numberAt ∈ BW := ⟨im_X8_numberAt, BW_of (List.mem_append_right _ (List.mem_of_getElem? (i := 427) (by decide +kernel))) (by decide +kernel)⟩
theorem im_X6_whoHasTag : Cond.instanceMethod yX6_whoHasTag ∈ BW := BW_of (List.mem_append_right _ (List.mem_of_getElem? (i := 441) (by decide +kernel))) (by decide +kernel)
theorem iv_X6_whoHasTag : Cond.instanceMethod yX6_whoHasTag ∈ BW ∧ Cond.selects (yX6_whoHasTag).cls yX6_whoHasTag yX6_whoHasTag ∈ BW := ⟨im_X6_whoHasTag, BW_of (List.mem_append_right _ (List.mem_of_getElem? (i := 442) (by decide +kernel))) (by decide +kernel)⟩
theorem me_X2_readSign : jMe yX2_readSign cX2_readSign 5 none 4 := ⟨BW_of (List.mem_append_right _ (List.mem_of_getElem? (i := 416) (by decide +kernel))) (by decide +kernel), in_X2, by decide +kernel⟩
theorem fn_X2_21 : Cond.fieldLinkNest RX2 21 "FlagChamber$Text" "length" "I" "FlagChamber" ∈ tables_1 := List.mem_of_getElem? (i := 132) (by decide +kernel)
theorem im_X2_readSign : Cond.instanceMethod yX2_readSign ∈ BW := BW_of (List.mem_append_right _ (List.mem_of_getElem? (i := 415) (by decide +kernel))) (by decide +kernel)
theorem iv_X2_readSign : Cond.instanceMethod yX2_readSign ∈ BW ∧ Cond.selects (yX2_readSign).cls yX2_readSign yX2_readSign ∈ BW := ⟨im_X2_readSign, BW_of (List.mem_append_left _ (List.mem_of_getElem? (i := 4) (by decide +kernel))) (by decide +kernel)⟩
theorem me_X2_whoMeets : jMe yX2_whoMeets cX2_whoMeets 5 (some .int) 3 := ⟨BW_of (List.mem_append_right _ (List.mem_of_getElem? (i := 407) (by decide +kernel))) (by decide +kernel), in_X2, by decide +kernel⟩
theorem fn_X0_67 : Cond.fieldLinkNest RX0 67 "FlagChamber$Graph" "order" "[I" "FlagChamber" ∈ tables_1 := List.mem_of_getElem? (i := 87) (by decide +kernel)
theorem fl_X0_29 : Cond.fieldLink RX0 29 "FlagChamber$Audiences" "members" "[I" ∈ BW := BW_of (List.mem_append_right _ (List.mem_of_getElem? (i := 146) (by decide +kernel))) (by decide +kernel)
theorem fl_X0_46 : Cond.fieldLink RX0 46 "FlagChamber$Audiences" "evaluator" "LFlagChamber$Evaluator;" ∈ BW := BW_of (List.mem_append_right _ (List.mem_of_getElem? (i := 151) (by decide +kernel))) (by decide +kernel)
theorem fl_X0_17 : Cond.fieldLink RX0 17 "FlagChamber$Audiences" "ruleTexts" "[LFlagChamber$Text;" ∈ BW := BW_of (List.mem_append_right _ (List.mem_of_getElem? (i := 144) (by decide +kernel))) (by decide +kernel)
theorem im_X2_whoMeets : Cond.instanceMethod yX2_whoMeets ∈ BW := BW_of (List.mem_append_right _ (List.mem_of_getElem? (i := 405) (by decide +kernel))) (by decide +kernel)
theorem iv_X2_whoMeets : Cond.instanceMethod yX2_whoMeets ∈ BW ∧ Cond.selects (yX2_whoMeets).cls yX2_whoMeets yX2_whoMeets ∈ BW := ⟨im_X2_whoMeets, BW_of (List.mem_append_right _ (List.mem_of_getElem? (i := 406) (by decide +kernel))) (by decide +kernel)⟩
theorem me_X0_settle : jMe yX0_settle cX0_settle 4 none 1 := ⟨BW_of (List.mem_append_right _ (List.mem_of_getElem? (i := 403) (by decide +kernel))) (by decide +kernel), in_X0, by decide +kernel⟩
theorem fl_X0_33 : Cond.fieldLink RX0 33 "FlagChamber$Audiences" "membersIfSet" "[I" ∈ BW := BW_of (List.mem_append_right _ (List.mem_of_getElem? (i := 148) (by decide +kernel))) (by decide +kernel)
theorem me_X0_tryDraft : jMe yX0_tryDraft cX0_tryDraft 5 none 2 := ⟨BW_of (List.mem_append_right _ (List.mem_of_getElem? (i := 558) (by decide +kernel))) (by decide +kernel), in_X0, by decide +kernel⟩
theorem nt_arraycopy : Cond.native arraycopyName ∈ BW := BW_of (List.mem_append_right _ (List.mem_of_getElem? (i := 569) (by decide +kernel))) (by decide +kernel)
theorem st_arraycopy : Cond.static arraycopyName ∈ BW := BW_of (List.mem_append_right _ (List.mem_of_getElem? (i := 568) (by decide +kernel))) (by decide +kernel)
theorem in_system : Cond.initialized "java/lang/System" ∈ BW := BW_of (List.mem_append_right _ (List.mem_of_getElem? (i := 22) (by decide +kernel))) (by decide +kernel)
theorem me_X8_copy : jMe yX8_copy cX8_copy 2 none 1 := ⟨BW_of (List.mem_append_right _ (List.mem_of_getElem? (i := 566) (by decide +kernel))) (by decide +kernel), in_X8, by decide +kernel⟩
theorem kc_J6_265 : Cond.constant RJ6 265 (1431655765) ∈ BW := BW_of (List.mem_append_right _ (List.mem_of_getElem? (i := 78) (by decide +kernel))) (by decide +kernel)
theorem kc_J6_266 : Cond.constant RJ6 266 (858993459) ∈ BW := BW_of (List.mem_append_right _ (List.mem_of_getElem? (i := 79) (by decide +kernel))) (by decide +kernel)
theorem kc_J6_267 : Cond.constant RJ6 267 (252645135) ∈ BW := BW_of (List.mem_append_right _ (List.mem_of_getElem? (i := 80) (by decide +kernel))) (by decide +kernel)
theorem in_J6 : Cond.initialized RJ6 ∈ BW := BW_of (List.mem_append_right _ (List.mem_of_getElem? (i := 5) (by decide +kernel))) (by decide +kernel)
theorem me_J6_bitCount_0f7a4 : jMe yJ6_bitCount_0f7a4 cJ6_bitCount_0f7a4 1 (some .int) 1 := ⟨BW_of (List.mem_append_right _ (List.mem_of_getElem? (i := 77) (by decide +kernel))) (by decide +kernel), in_J6, by decide +kernel⟩
theorem fl_X4_13 : Cond.fieldLink RX4 13 "FlagChamber$Graph" "order" "[I" ∈ BW := BW_of (List.mem_append_right _ (List.mem_of_getElem? (i := 86) (by decide +kernel))) (by decide +kernel)
theorem st_J6_bitCount_0f7a4 : Cond.static yJ6_bitCount_0f7a4 ∈ BW := BW_of (List.mem_append_right _ (List.mem_of_getElem? (i := 76) (by decide +kernel))) (by decide +kernel)
theorem me_X4_arrange : jMe yX4_arrange cX4_arrange 4 none 0 := ⟨BW_of (List.mem_append_right _ (List.mem_of_getElem? (i := 71) (by decide +kernel))) (by decide +kernel), in_X4, by decide +kernel⟩
theorem im_X4_arrange : Cond.instanceMethod yX4_arrange ∈ BW := BW_of (List.mem_append_right _ (List.mem_of_getElem? (i := 70) (by decide +kernel))) (by decide +kernel)
theorem iv_X4_arrange : Cond.instanceMethod yX4_arrange ∈ BW ∧ Cond.selects (yX4_arrange).cls yX4_arrange yX4_arrange ∈ BW := ⟨im_X4_arrange, BW_of (List.mem_append_left _ (List.mem_of_getElem? (i := 0) (by decide +kernel))) (by decide +kernel)⟩
theorem me_X4_point : jMe yX4_point cX4_point 3 none 2 := ⟨BW_of (List.mem_append_right _ (List.mem_of_getElem? (i := 573) (by decide +kernel))) (by decide +kernel), in_X4, by decide +kernel⟩
theorem im_X4_point : Cond.instanceMethod yX4_point ∈ BW := BW_of (List.mem_append_right _ (List.mem_of_getElem? (i := 571) (by decide +kernel))) (by decide +kernel)
theorem iv_X4_point : Cond.instanceMethod yX4_point ∈ BW ∧ Cond.selects (yX4_point).cls yX4_point yX4_point ∈ BW := ⟨im_X4_point, BW_of (List.mem_append_right _ (List.mem_of_getElem? (i := 572) (by decide +kernel))) (by decide +kernel)⟩
theorem im_X8_copy : Cond.instanceMethod yX8_copy ∈ BW := BW_of (List.mem_append_right _ (List.mem_of_getElem? (i := 564) (by decide +kernel))) (by decide +kernel)
theorem iv_X8_copy : Cond.instanceMethod yX8_copy ∈ BW ∧ Cond.selects (yX8_copy).cls yX8_copy yX8_copy ∈ BW := ⟨im_X8_copy, BW_of (List.mem_append_right _ (List.mem_of_getElem? (i := 565) (by decide +kernel))) (by decide +kernel)⟩
theorem me_X0_adoptDraft : jMe yX0_adoptDraft cX0_adoptDraft 2 none 1 := ⟨BW_of (List.mem_append_right _ (List.mem_of_getElem? (i := 562) (by decide +kernel))) (by decide +kernel), in_X0, by decide +kernel⟩
theorem fl_X1_15 : Cond.fieldLink RX1 15 "FlagChamber$Entry" "person" "I" ∈ BW := BW_of (List.mem_append_right _ (List.mem_of_getElem? (i := 742) (by decide +kernel))) (by decide +kernel)
set_option maxRecDepth 100000 in
theorem cf_X1 : jCl 2 RX1 TX1 5 tyX1 := by
  have h : ∀ w ∈ u_ws RX1 TX1 5, w ∈ lw_tbl := by decide +kernel
  have g : (u_ws RX1 TX1 5).all goodWord = true := by decide +kernel
  exact ⟨rfl, fun w hw => BW_of (h w hw) (List.all_eq_true.mp g w hw), tyX1_ok, nmX1⟩
theorem in_X1 : Cond.initialized RX1 ∈ BW := BW_of (List.mem_append_right _ (List.mem_of_getElem? (i := 24) (by decide +kernel))) (by decide +kernel)
theorem me_X1_concerns : jMe yX1_concerns cX1_concerns 2 (some .boolean) 1 := ⟨BW_of (List.mem_append_right _ (List.mem_of_getElem? (i := 825) (by decide +kernel))) (by decide +kernel), in_X1, by decide +kernel⟩
theorem fl_X3_18 : Cond.fieldLink RX3 18 "FlagChamber$Flag" "count" "I" ∈ BW := BW_of (List.mem_append_right _ (List.mem_of_getElem? (i := 245) (by decide +kernel))) (by decide +kernel)
theorem fl_X3_9 : Cond.fieldLink RX3 9 "FlagChamber$Flag" "ruleAudiences" "[I" ∈ BW := BW_of (List.mem_append_right _ (List.mem_of_getElem? (i := 243) (by decide +kernel))) (by decide +kernel)
theorem fl_X3_15 : Cond.fieldLink RX3 15 "FlagChamber$Flag" "outcomes" "[I" ∈ BW := BW_of (List.mem_append_right _ (List.mem_of_getElem? (i := 244) (by decide +kernel))) (by decide +kernel)
set_option maxRecDepth 100000 in
theorem cf_X3 : jCl 4 RX3 TX3 3 tyX3 := by
  have h : ∀ w ∈ u_ws RX3 TX3 3, w ∈ lw_tbl := by decide +kernel
  have g : (u_ws RX3 TX3 3).all goodWord = true := by decide +kernel
  exact ⟨rfl, fun w hw => BW_of (h w hw) (List.all_eq_true.mp g w hw), tyX3_ok, nmX3⟩
theorem in_X3 : Cond.initialized RX3 ∈ BW := BW_of (List.mem_append_right _ (List.mem_of_getElem? (i := 14) (by decide +kernel))) (by decide +kernel)
theorem me_X3_insert : jMe yX3_insert cX3_insert 5 none 3 := ⟨BW_of (List.mem_append_right _ (List.mem_of_getElem? (i := 653) (by decide +kernel))) (by decide +kernel), in_X3, by decide +kernel⟩
theorem me_X3_delete : jMe yX3_delete cX3_delete 3 none 1 := ⟨BW_of (List.mem_append_right _ (List.mem_of_getElem? (i := 665) (by decide +kernel))) (by decide +kernel), in_X3, by decide +kernel⟩
theorem me_X3_outcomeOf : jMe yX3_outcomeOf cX3_outcomeOf 2 (some .int) 1 := ⟨BW_of (List.mem_append_right _ (List.mem_of_getElem? (i := 603) (by decide +kernel))) (by decide +kernel), in_X3, by decide +kernel⟩
theorem im_X3_outcomeOf : Cond.instanceMethod yX3_outcomeOf ∈ BW := BW_of (List.mem_append_right _ (List.mem_of_getElem? (i := 601) (by decide +kernel))) (by decide +kernel)
theorem iv_X3_outcomeOf : Cond.instanceMethod yX3_outcomeOf ∈ BW ∧ Cond.selects (yX3_outcomeOf).cls yX3_outcomeOf yX3_outcomeOf ∈ BW := ⟨im_X3_outcomeOf, BW_of (List.mem_append_right _ (List.mem_of_getElem? (i := 602) (by decide +kernel))) (by decide +kernel)⟩
theorem me_X3_trialOf : jMe yX3_trialOf cX3_trialOf 3 (some .int) 1 := ⟨BW_of (List.mem_append_right _ (List.mem_of_getElem? (i := 599) (by decide +kernel))) (by decide +kernel), in_X3, by decide +kernel⟩
theorem me_X3_decidingRule : jMe yX3_decidingRule cX3_decidingRule 4 (some .int) 2 := ⟨BW_of (List.mem_append_right _ (List.mem_of_getElem? (i := 594) (by decide +kernel))) (by decide +kernel), in_X3, by decide +kernel⟩
theorem in_J7 : Cond.initialized RJ7 ∈ BW := BW_of (List.mem_append_right _ (List.mem_of_getElem? (i := 13) (by decide +kernel))) (by decide +kernel)
theorem me_J7_fill_53178 : jMe yJ7_fill_53178 cJ7_fill_53178 4 none 2 := ⟨BW_of (List.mem_append_right _ (List.mem_of_getElem? (i := 217) (by decide +kernel))) (by decide +kernel), in_J7, by decide +kernel⟩
theorem fl_X5_9 : Cond.fieldLink RX5 9 "FlagChamber$Past" "keptArms" "[I" ∈ BW := BW_of (List.mem_append_right _ (List.mem_of_getElem? (i := 218) (by decide +kernel))) (by decide +kernel)
theorem fl_X5_17 : Cond.fieldLink RX5 17 "FlagChamber$Past" "shownBy" "[[I" ∈ BW := BW_of (List.mem_append_right _ (List.mem_of_getElem? (i := 220) (by decide +kernel))) (by decide +kernel)
theorem st_J7_fill_53178 : Cond.static yJ7_fill_53178 ∈ BW := BW_of (List.mem_append_right _ (List.mem_of_getElem? (i := 216) (by decide +kernel))) (by decide +kernel)
set_option maxRecDepth 100000 in
theorem cf_X5 : jCl 6 RX5 TX5 5 tyX5 := by
  have h : ∀ w ∈ u_ws RX5 TX5 5, w ∈ lw_tbl := by decide +kernel
  have g : (u_ws RX5 TX5 5).all goodWord = true := by decide +kernel
  exact ⟨rfl, fun w hw => BW_of (h w hw) (List.all_eq_true.mp g w hw), tyX5_ok, nmX5⟩
theorem in_X5 : Cond.initialized RX5 ∈ BW := BW_of (List.mem_append_right _ (List.mem_of_getElem? (i := 12) (by decide +kernel))) (by decide +kernel)
theorem me_X5_forgetTrial : jMe yX5_forgetTrial cX5_forgetTrial 2 none 1 := ⟨BW_of (List.mem_append_right _ (List.mem_of_getElem? (i := 214) (by decide +kernel))) (by decide +kernel), in_X5, by decide +kernel⟩
theorem fl_X5_20 : Cond.fieldLink RX5 20 "FlagChamber$Past" "shown" "[I" ∈ BW := BW_of (List.mem_append_right _ (List.mem_of_getElem? (i := 221) (by decide +kernel))) (by decide +kernel)
theorem fl_X5_23 : Cond.fieldLink RX5 23 "FlagChamber$Past" "holders" "[I" ∈ BW := BW_of (List.mem_append_right _ (List.mem_of_getElem? (i := 223) (by decide +kernel))) (by decide +kernel)
theorem fl_X5_26 : Cond.fieldLink RX5 26 "FlagChamber$Past" "frozen" "[I" ∈ BW := BW_of (List.mem_append_right _ (List.mem_of_getElem? (i := 225) (by decide +kernel))) (by decide +kernel)
theorem im_X5_forgetTrial : Cond.instanceMethod yX5_forgetTrial ∈ BW := BW_of (List.mem_append_right _ (List.mem_of_getElem? (i := 213) (by decide +kernel))) (by decide +kernel)
theorem iv_X5_forgetTrial : Cond.instanceMethod yX5_forgetTrial ∈ BW ∧ Cond.selects (yX5_forgetTrial).cls yX5_forgetTrial yX5_forgetTrial ∈ BW := ⟨im_X5_forgetTrial, BW_of (List.mem_append_left _ (List.mem_of_getElem? (i := 1) (by decide +kernel))) (by decide +kernel)⟩
theorem me_X5_forget : jMe yX5_forget cX5_forget 2 none 0 := ⟨BW_of (List.mem_append_right _ (List.mem_of_getElem? (i := 210) (by decide +kernel))) (by decide +kernel), in_X5, by decide +kernel⟩
theorem fn_X5_58 : Cond.fieldLinkNest RX5 58 "FlagChamber$Entry" "flag" "I" "FlagChamber" ∈ tables_1 := List.mem_of_getElem? (i := 744) (by decide +kernel)
theorem fn_X5_55 : Cond.fieldLinkNest RX5 55 "FlagChamber$Entry" "variant" "I" "FlagChamber" ∈ tables_1 := List.mem_of_getElem? (i := 748) (by decide +kernel)
theorem fn_X5_52 : Cond.fieldLinkNest RX5 52 "FlagChamber$Entry" "trial" "I" "FlagChamber" ∈ tables_1 := List.mem_of_getElem? (i := 746) (by decide +kernel)
theorem me_X5_noteShowing : jMe yX5_noteShowing cX5_noteShowing 2 none 1 := ⟨BW_of (List.mem_append_right _ (List.mem_of_getElem? (i := 833) (by decide +kernel))) (by decide +kernel), in_X5, by decide +kernel⟩
theorem me_X5_addHolder : jMe yX5_addHolder cX5_addHolder 4 none 3 := ⟨BW_of (List.mem_append_right _ (List.mem_of_getElem? (i := 837) (by decide +kernel))) (by decide +kernel), in_X5, by decide +kernel⟩
theorem im_X5_addHolder : Cond.instanceMethod yX5_addHolder ∈ BW := BW_of (List.mem_append_right _ (List.mem_of_getElem? (i := 836) (by decide +kernel))) (by decide +kernel)
theorem iv_X5_addHolder : Cond.instanceMethod yX5_addHolder ∈ BW ∧ Cond.selects (yX5_addHolder).cls yX5_addHolder yX5_addHolder ∈ BW := ⟨im_X5_addHolder, BW_of (List.mem_append_left _ (List.mem_of_getElem? (i := 22) (by decide +kernel))) (by decide +kernel)⟩
theorem me_X5_holdWhatWasShownBy : jMe yX5_holdWhatWasShownBy cX5_holdWhatWasShownBy 3 none 1 := ⟨BW_of (List.mem_append_right _ (List.mem_of_getElem? (i := 842) (by decide +kernel))) (by decide +kernel), in_X5, by decide +kernel⟩
theorem me_X5_releaseAllOf : jMe yX5_releaseAllOf cX5_releaseAllOf 3 none 1 := ⟨BW_of (List.mem_append_right _ (List.mem_of_getElem? (i := 846) (by decide +kernel))) (by decide +kernel), in_X5, by decide +kernel⟩
theorem fn_X5_42 : Cond.fieldLinkNest RX5 42 "FlagChamber$Entry" "kind" "I" "FlagChamber" ∈ tables_1 := List.mem_of_getElem? (i := 741) (by decide +kernel)
theorem im_X5_noteShowing : Cond.instanceMethod yX5_noteShowing ∈ BW := BW_of (List.mem_append_right _ (List.mem_of_getElem? (i := 832) (by decide +kernel))) (by decide +kernel)
theorem iv_X5_noteShowing : Cond.instanceMethod yX5_noteShowing ∈ BW ∧ Cond.selects (yX5_noteShowing).cls yX5_noteShowing yX5_noteShowing ∈ BW := ⟨im_X5_noteShowing, BW_of (List.mem_append_left _ (List.mem_of_getElem? (i := 21) (by decide +kernel))) (by decide +kernel)⟩
theorem im_X5_holdWhatWasShownBy : Cond.instanceMethod yX5_holdWhatWasShownBy ∈ BW := BW_of (List.mem_append_right _ (List.mem_of_getElem? (i := 841) (by decide +kernel))) (by decide +kernel)
theorem iv_X5_holdWhatWasShownBy : Cond.instanceMethod yX5_holdWhatWasShownBy ∈ BW ∧ Cond.selects (yX5_holdWhatWasShownBy).cls yX5_holdWhatWasShownBy yX5_holdWhatWasShownBy ∈ BW := ⟨im_X5_holdWhatWasShownBy, BW_of (List.mem_append_left _ (List.mem_of_getElem? (i := 23) (by decide +kernel))) (by decide +kernel)⟩
theorem im_X5_releaseAllOf : Cond.instanceMethod yX5_releaseAllOf ∈ BW := BW_of (List.mem_append_right _ (List.mem_of_getElem? (i := 845) (by decide +kernel))) (by decide +kernel)
theorem iv_X5_releaseAllOf : Cond.instanceMethod yX5_releaseAllOf ∈ BW ∧ Cond.selects (yX5_releaseAllOf).cls yX5_releaseAllOf yX5_releaseAllOf ∈ BW := ⟨im_X5_releaseAllOf, BW_of (List.mem_append_left _ (List.mem_of_getElem? (i := 24) (by decide +kernel))) (by decide +kernel)⟩
theorem me_X5_take : jMe yX5_take cX5_take 2 none 1 := ⟨BW_of (List.mem_append_right _ (List.mem_of_getElem? (i := 829) (by decide +kernel))) (by decide +kernel), in_X5, by decide +kernel⟩
theorem me_X5_countHeldBy : jMe yX5_countHeldBy cX5_countHeldBy 4 (some .int) 1 := ⟨BW_of (List.mem_append_right _ (List.mem_of_getElem? (i := 877) (by decide +kernel))) (by decide +kernel), in_X5, by decide +kernel⟩
theorem me_X5_countHeldOnlyBy : jMe yX5_countHeldOnlyBy cX5_countHeldOnlyBy 4 (some .int) 1 := ⟨BW_of (List.mem_append_right _ (List.mem_of_getElem? (i := 890) (by decide +kernel))) (by decide +kernel), in_X5, by decide +kernel⟩
theorem me_X8_append : jMe yX8_append cX8_append 2 none 1 := ⟨BW_of (List.mem_append_right _ (List.mem_of_getElem? (i := 489) (by decide +kernel))) (by decide +kernel), in_X8, by decide +kernel⟩
theorem fl_X9_9 : Cond.fieldLink RX9 9 "FlagChamber$Trial" "shares" "[I" ∈ BW := BW_of (List.mem_append_right _ (List.mem_of_getElem? (i := 259) (by decide +kernel))) (by decide +kernel)
set_option maxRecDepth 100000 in
theorem cf_X9 : jCl 10 RX9 TX9 4 tyX9 := by
  have h : ∀ w ∈ u_ws RX9 TX9 4, w ∈ lw_tbl := by decide +kernel
  have g : (u_ws RX9 TX9 4).all goodWord = true := by decide +kernel
  exact ⟨rfl, fun w hw => BW_of (h w hw) (List.all_eq_true.mp g w hw), tyX9_ok, nmX9⟩
theorem in_X9 : Cond.initialized RX9 ∈ BW := BW_of (List.mem_append_right _ (List.mem_of_getElem? (i := 15) (by decide +kernel))) (by decide +kernel)
theorem me_X9_share : jMe yX9_share cX9_share 5 none 4 := ⟨BW_of (List.mem_append_right _ (List.mem_of_getElem? (i := 696) (by decide +kernel))) (by decide +kernel), in_X9, by decide +kernel⟩
theorem me_X9_sumOfShares : jMe yX9_sumOfShares cX9_sumOfShares 6 (some .int) 0 := ⟨BW_of (List.mem_append_right _ (List.mem_of_getElem? (i := 616) (by decide +kernel))) (by decide +kernel), in_X9, by decide +kernel⟩
theorem kc_X9_27 : Cond.constant RX9 27 (104729) ∈ BW := BW_of (List.mem_append_right _ (List.mem_of_getElem? (i := 617) (by decide +kernel))) (by decide +kernel)
theorem fl_X9_28 : Cond.fieldLink RX9 28 "FlagChamber$Trial" "salt" "I" ∈ BW := BW_of (List.mem_append_right _ (List.mem_of_getElem? (i := 260) (by decide +kernel))) (by decide +kernel)
theorem kc_X9_31 : Cond.constant RX9 31 (1000003) ∈ BW := BW_of (List.mem_append_right _ (List.mem_of_getElem? (i := 618) (by decide +kernel))) (by decide +kernel)
theorem im_X9_sumOfShares : Cond.instanceMethod yX9_sumOfShares ∈ BW := BW_of (List.mem_append_right _ (List.mem_of_getElem? (i := 614) (by decide +kernel))) (by decide +kernel)
theorem iv_X9_sumOfShares : Cond.instanceMethod yX9_sumOfShares ∈ BW ∧ Cond.selects (yX9_sumOfShares).cls yX9_sumOfShares yX9_sumOfShares ∈ BW := ⟨im_X9_sumOfShares, BW_of (List.mem_append_right _ (List.mem_of_getElem? (i := 615) (by decide +kernel))) (by decide +kernel)⟩
theorem me_X9_drawArm : jMe yX9_drawArm cX9_drawArm 6 (some .int) 1 := ⟨BW_of (List.mem_append_right _ (List.mem_of_getElem? (i := 612) (by decide +kernel))) (by decide +kernel), in_X9, by decide +kernel⟩
theorem fl_X9_15 : Cond.fieldLink RX9 15 "FlagChamber$Trial" "stoppedTo" "I" ∈ BW := BW_of (List.mem_append_right _ (List.mem_of_getElem? (i := 262) (by decide +kernel))) (by decide +kernel)
theorem im_X9_drawArm : Cond.instanceMethod yX9_drawArm ∈ BW := BW_of (List.mem_append_right _ (List.mem_of_getElem? (i := 611) (by decide +kernel))) (by decide +kernel)
theorem iv_X9_drawArm : Cond.instanceMethod yX9_drawArm ∈ BW ∧ Cond.selects (yX9_drawArm).cls yX9_drawArm yX9_drawArm ∈ BW := ⟨im_X9_drawArm, BW_of (List.mem_append_left _ (List.mem_of_getElem? (i := 13) (by decide +kernel))) (by decide +kernel)⟩
theorem me_X9_armFor : jMe yX9_armFor cX9_armFor 3 (some .int) 2 := ⟨BW_of (List.mem_append_right _ (List.mem_of_getElem? (i := 608) (by decide +kernel))) (by decide +kernel), in_X9, by decide +kernel⟩
set_option maxRecDepth 100000 in
theorem th_X10_1_124_128 : jTh RX10 1 124 128 := by
  have h : ∀ w ∈ Cond.classLink RX10 124 (jE 1) :: Cond.initialized (jE 1) :: vx_atS RX10 128 (jE 1) ["java/lang/RuntimeException", "java/lang/Exception"], (w ∈ lw_tbl ∧ goodWord w = true) ∨ (w ∈ tables_1 ∧ jNest w = true) := by decide +kernel
  have h0 := h _ List.mem_cons_self
  have h1 := h _ (List.mem_cons_of_mem _ List.mem_cons_self)
  have nn : ∀ w : Cond, (w ∈ tables_1 ∧ jNest w = true) → jNest w = true := fun _ h => h.2
  refine ⟨by decide, by decide +kernel, ?_, ?_, fun w hw => (h w (List.mem_cons_of_mem _ (List.mem_cons_of_mem _ hw))).imp (fun h => BW_of h.1 h.2) id, by decide +kernel⟩
  · exact h0.elim (fun h => BW_of h.1 h.2) (fun h => nomatch (show false = true from h.2))
  · exact h1.elim (fun h => BW_of h.1 h.2) (fun h => nomatch (show false = true from h.2))
theorem sr_X10_303 : Cond.stringRef RX10 303 "an argument is out of range" ∈ tables_1 := List.mem_of_getElem? (i := 370) (by decide +kernel)
theorem me_X10_checkRange : jMe yX10_checkRange cX10_checkRange 3 none 3 := ⟨BW_of (List.mem_append_right _ (List.mem_of_getElem? (i := 328) (by decide +kernel))) (by decide +kernel), in_X10, by decide +kernel⟩
theorem st_X10_checkRange : Cond.static yX10_checkRange ∈ BW := BW_of (List.mem_append_right _ (List.mem_of_getElem? (i := 327) (by decide +kernel))) (by decide +kernel)
theorem me_X10_checkPerson : jMe yX10_checkPerson cX10_checkPerson 1 none 1 := ⟨BW_of (List.mem_append_right _ (List.mem_of_getElem? (i := 325) (by decide +kernel))) (by decide +kernel), in_X10, by decide +kernel⟩
theorem me_X10_mostOf : jMe yX10_mostOf cX10_mostOf 1 (some .int) 1 := ⟨BW_of (List.mem_append_right _ (List.mem_of_getElem? (i := 399) (by decide +kernel))) (by decide +kernel), in_X10, by decide +kernel⟩
theorem fl_X10_12 : Cond.fieldLink RX10 12 "FlagChamber" "people" "LFlagChamber$People;" ∈ BW := BW_of (List.mem_append_right _ (List.mem_of_getElem? (i := 274) (by decide +kernel))) (by decide +kernel)
theorem fn_X10_82 : Cond.fieldLinkNest RX10 82 "FlagChamber$People" "attributes" "[[I" "FlagChamber" ∈ tables_1 := List.mem_of_getElem? (i := 45) (by decide +kernel)
theorem fl_X10_19 : Cond.fieldLink RX10 19 "FlagChamber" "audiences" "LFlagChamber$Audiences;" ∈ BW := BW_of (List.mem_append_right _ (List.mem_of_getElem? (i := 275) (by decide +kernel))) (by decide +kernel)
theorem im_X0_settle : Cond.instanceMethod yX0_settle ∈ BW := BW_of (List.mem_append_right _ (List.mem_of_getElem? (i := 401) (by decide +kernel))) (by decide +kernel)
theorem iv_X0_settle : Cond.instanceMethod yX0_settle ∈ BW ∧ Cond.selects (yX0_settle).cls yX0_settle yX0_settle ∈ BW := ⟨im_X0_settle, BW_of (List.mem_append_right _ (List.mem_of_getElem? (i := 402) (by decide +kernel))) (by decide +kernel)⟩
set_option maxRecDepth 100000 in
theorem cf_X10 : jCl 11 RX10 TX10 10 tyX10 := by
  have h : ∀ w ∈ u_ws RX10 TX10 10, w ∈ lw_tbl := by decide +kernel
  have g : (u_ws RX10 TX10 10).all goodWord = true := by decide +kernel
  exact ⟨rfl, fun w hw => BW_of (h w hw) (List.all_eq_true.mp g w hw), tyX10_ok, nmX10⟩
theorem st_X10_mostOf : Cond.static yX10_mostOf ∈ BW := BW_of (List.mem_append_right _ (List.mem_of_getElem? (i := 398) (by decide +kernel))) (by decide +kernel)
theorem st_X10_checkPerson : Cond.static yX10_checkPerson ∈ BW := BW_of (List.mem_append_right _ (List.mem_of_getElem? (i := 324) (by decide +kernel))) (by decide +kernel)
theorem me_X10_setAttribute : jMe yX10_setAttribute cX10_setAttribute 5 (some .int) 3 := ⟨BW_of (List.mem_append_right _ (List.mem_of_getElem? (i := 322) (by decide +kernel))) (by decide +kernel), in_X10, by decide +kernel⟩
theorem fn_X10_90 : Cond.fieldLinkNest RX10 90 "FlagChamber$People" "tags" "[I" "FlagChamber" ∈ tables_1 := List.mem_of_getElem? (i := 47) (by decide +kernel)
theorem me_X10_setTag : jMe yX10_setTag cX10_setTag 5 (some .boolean) 3 := ⟨BW_of (List.mem_append_right _ (List.mem_of_getElem? (i := 456) (by decide +kernel))) (by decide +kernel), in_X10, by decide +kernel⟩
theorem me_X10_checkAudience : jMe yX10_checkAudience cX10_checkAudience 1 none 1 := ⟨BW_of (List.mem_append_right _ (List.mem_of_getElem? (i := 469) (by decide +kernel))) (by decide +kernel), in_X10, by decide +kernel⟩
theorem fn_X10_104 : Cond.fieldLinkNest RX10 104 "FlagChamber$Audiences" "drafts" "[LFlagChamber$Text;" "FlagChamber" ∈ tables_1 := List.mem_of_getElem? (i := 143) (by decide +kernel)
theorem fn_X10_108 : Cond.fieldLinkNest RX10 108 "FlagChamber$Text" "length" "I" "FlagChamber" ∈ tables_1 := List.mem_of_getElem? (i := 135) (by decide +kernel)
theorem im_X8_append : Cond.instanceMethod yX8_append ∈ BW := BW_of (List.mem_append_right _ (List.mem_of_getElem? (i := 487) (by decide +kernel))) (by decide +kernel)
theorem iv_X8_append : Cond.instanceMethod yX8_append ∈ BW ∧ Cond.selects (yX8_append).cls yX8_append yX8_append ∈ BW := ⟨im_X8_append, BW_of (List.mem_append_right _ (List.mem_of_getElem? (i := 488) (by decide +kernel))) (by decide +kernel)⟩
set_option maxRecDepth 100000 in
theorem th_X10_2_114_118 : jTh RX10 2 114 118 := by
  have h : ∀ w ∈ Cond.classLink RX10 114 (jE 2) :: Cond.initialized (jE 2) :: vx_atS RX10 118 (jE 2) ["java/lang/RuntimeException", "java/lang/Exception"], (w ∈ lw_tbl ∧ goodWord w = true) ∨ (w ∈ tables_1 ∧ jNest w = true) := by decide +kernel
  have h0 := h _ List.mem_cons_self
  have h1 := h _ (List.mem_cons_of_mem _ List.mem_cons_self)
  have nn : ∀ w : Cond, (w ∈ tables_1 ∧ jNest w = true) → jNest w = true := fun _ h => h.2
  refine ⟨by decide, by decide +kernel, ?_, ?_, fun w hw => (h w (List.mem_cons_of_mem _ (List.mem_cons_of_mem _ hw))).imp (fun h => BW_of h.1 h.2) id, by decide +kernel⟩
  · exact h0.elim (fun h => BW_of h.1 h.2) (fun h => nomatch (show false = true from h.2))
  · exact h1.elim (fun h => BW_of h.1 h.2) (fun h => nomatch (show false = true from h.2))
theorem sr_X10_116 : Cond.stringRef RX10 116 "the draft is full" ∈ tables_1 := List.mem_of_getElem? (i := 479) (by decide +kernel)
theorem st_X10_checkAudience : Cond.static yX10_checkAudience ∈ BW := BW_of (List.mem_append_right _ (List.mem_of_getElem? (i := 468) (by decide +kernel))) (by decide +kernel)
theorem me_X10_type : jMe yX10_type cX10_type 4 (some .int) 2 := ⟨BW_of (List.mem_append_right _ (List.mem_of_getElem? (i := 466) (by decide +kernel))) (by decide +kernel), in_X10, by decide +kernel⟩
theorem st_mmax : Cond.static Lib.Math.max.name ∈ BW := BW_of (List.mem_append_right _ (List.mem_of_getElem? (i := 499) (by decide +kernel))) (by decide +kernel)
theorem in_math : Cond.initialized "java/lang/Math" ∈ BW := BW_of (List.mem_append_right _ (List.mem_of_getElem? (i := 21) (by decide +kernel))) (by decide +kernel)
theorem co_mmax : Cond.code Lib.Math.max.name Lib.Math.max.code 2 (some .int) ∈ BW := BW_of (List.mem_append_right _ (List.mem_of_getElem? (i := 500) (by decide +kernel))) (by decide +kernel)
theorem sr_X10_126 : Cond.stringRef RX10 126 "at least one sign is to be erased" ∈ tables_1 := List.mem_of_getElem? (i := 497) (by decide +kernel)
theorem me_X10_erase : jMe yX10_erase cX10_erase 4 (some .int) 2 := ⟨BW_of (List.mem_append_right _ (List.mem_of_getElem? (i := 496) (by decide +kernel))) (by decide +kernel), in_X10, by decide +kernel⟩
theorem me_X10_fault : jMe yX10_fault cX10_fault 2 (some .int) 1 := ⟨BW_of (List.mem_append_right _ (List.mem_of_getElem? (i := 507) (by decide +kernel))) (by decide +kernel), in_X10, by decide +kernel⟩
theorem sr_X10_308 : Cond.stringRef RX10 308 "the draft has a fault, or a rule would refer to its own audience" ∈ tables_1 := List.mem_of_getElem? (i := 554) (by decide +kernel)
theorem im_X0_canBeSet : Cond.instanceMethod yX0_canBeSet ∈ BW := BW_of (List.mem_append_right _ (List.mem_of_getElem? (i := 541) (by decide +kernel))) (by decide +kernel)
theorem iv_X0_canBeSet : Cond.instanceMethod yX0_canBeSet ∈ BW ∧ Cond.selects (yX0_canBeSet).cls yX0_canBeSet yX0_canBeSet ∈ BW := ⟨im_X0_canBeSet, BW_of (List.mem_append_right _ (List.mem_of_getElem? (i := 542) (by decide +kernel))) (by decide +kernel)⟩
theorem me_X10_checkSettable : jMe yX10_checkSettable cX10_checkSettable 2 none 1 := ⟨BW_of (List.mem_append_right _ (List.mem_of_getElem? (i := 539) (by decide +kernel))) (by decide +kernel), in_X10, by decide +kernel⟩
theorem fn_X10_153 : Cond.fieldLinkNest RX10 153 "FlagChamber$Audiences" "members" "[I" "FlagChamber" ∈ tables_1 := List.mem_of_getElem? (i := 147) (by decide +kernel)
theorem fn_X10_156 : Cond.fieldLinkNest RX10 156 "FlagChamber$Audiences" "membersIfSet" "[I" "FlagChamber" ∈ tables_1 := List.mem_of_getElem? (i := 149) (by decide +kernel)
theorem im_X0_adoptDraft : Cond.instanceMethod yX0_adoptDraft ∈ BW := BW_of (List.mem_append_right _ (List.mem_of_getElem? (i := 560) (by decide +kernel))) (by decide +kernel)
theorem iv_X0_adoptDraft : Cond.instanceMethod yX0_adoptDraft ∈ BW ∧ Cond.selects (yX0_adoptDraft).cls yX0_adoptDraft yX0_adoptDraft ∈ BW := ⟨im_X0_adoptDraft, BW_of (List.mem_append_right _ (List.mem_of_getElem? (i := 561) (by decide +kernel))) (by decide +kernel)⟩
theorem im_X0_tryDraft : Cond.instanceMethod yX0_tryDraft ∈ BW := BW_of (List.mem_append_right _ (List.mem_of_getElem? (i := 556) (by decide +kernel))) (by decide +kernel)
theorem iv_X0_tryDraft : Cond.instanceMethod yX0_tryDraft ∈ BW ∧ Cond.selects (yX0_tryDraft).cls yX0_tryDraft yX0_tryDraft ∈ BW := ⟨im_X0_tryDraft, BW_of (List.mem_append_right _ (List.mem_of_getElem? (i := 557) (by decide +kernel))) (by decide +kernel)⟩
theorem im_X10_checkSettable : Cond.instanceMethod yX10_checkSettable ∈ BW := BW_of (List.mem_append_right _ (List.mem_of_getElem? (i := 538) (by decide +kernel))) (by decide +kernel)
theorem iv_X10_checkSettable : Cond.instanceMethod yX10_checkSettable ∈ BW ∧ Cond.selects (yX10_checkSettable).cls yX10_checkSettable yX10_checkSettable ∈ BW := ⟨im_X10_checkSettable, BW_of (List.mem_append_left _ (List.mem_of_getElem? (i := 10) (by decide +kernel))) (by decide +kernel)⟩
theorem me_X10_set : jMe yX10_set cX10_set 3 (some .int) 1 := ⟨BW_of (List.mem_append_right _ (List.mem_of_getElem? (i := 535) (by decide +kernel))) (by decide +kernel), in_X10, by decide +kernel⟩
theorem fl_X10_25 : Cond.fieldLink RX10 25 "FlagChamber" "flags" "[LFlagChamber$Flag;" ∈ BW := BW_of (List.mem_append_right _ (List.mem_of_getElem? (i := 276) (by decide +kernel))) (by decide +kernel)
theorem fl_X10_40 : Cond.fieldLink RX10 40 "FlagChamber" "trials" "[LFlagChamber$Trial;" ∈ BW := BW_of (List.mem_append_right _ (List.mem_of_getElem? (i := 278) (by decide +kernel))) (by decide +kernel)
theorem fn_X10_278 : Cond.fieldLinkNest RX10 278 "FlagChamber$Past" "keptArms" "[I" "FlagChamber" ∈ tables_1 := List.mem_of_getElem? (i := 219) (by decide +kernel)
theorem im_X9_armFor : Cond.instanceMethod yX9_armFor ∈ BW := BW_of (List.mem_append_right _ (List.mem_of_getElem? (i := 606) (by decide +kernel))) (by decide +kernel)
theorem iv_X9_armFor : Cond.instanceMethod yX9_armFor ∈ BW ∧ Cond.selects (yX9_armFor).cls yX9_armFor yX9_armFor ∈ BW := ⟨im_X9_armFor, BW_of (List.mem_append_right _ (List.mem_of_getElem? (i := 607) (by decide +kernel))) (by decide +kernel)⟩
theorem im_X3_trialOf : Cond.instanceMethod yX3_trialOf ∈ BW := BW_of (List.mem_append_right _ (List.mem_of_getElem? (i := 597) (by decide +kernel))) (by decide +kernel)
theorem iv_X3_trialOf : Cond.instanceMethod yX3_trialOf ∈ BW ∧ Cond.selects (yX3_trialOf).cls yX3_trialOf yX3_trialOf ∈ BW := ⟨im_X3_trialOf, BW_of (List.mem_append_right _ (List.mem_of_getElem? (i := 598) (by decide +kernel))) (by decide +kernel)⟩
theorem im_X3_decidingRule : Cond.instanceMethod yX3_decidingRule ∈ BW := BW_of (List.mem_append_right _ (List.mem_of_getElem? (i := 592) (by decide +kernel))) (by decide +kernel)
theorem iv_X3_decidingRule : Cond.instanceMethod yX3_decidingRule ∈ BW ∧ Cond.selects (yX3_decidingRule).cls yX3_decidingRule yX3_decidingRule ∈ BW := ⟨im_X3_decidingRule, BW_of (List.mem_append_right _ (List.mem_of_getElem? (i := 593) (by decide +kernel))) (by decide +kernel)⟩
theorem me_X10_decidedView : jMe yX10_decidedView cX10_decidedView 7 (some .int) 4 := ⟨BW_of (List.mem_append_right _ (List.mem_of_getElem? (i := 590) (by decide +kernel))) (by decide +kernel), in_X10, by decide +kernel⟩
theorem fl_X10_34 : Cond.fieldLink RX10 34 "FlagChamber" "needs" "LFlagChamber$Graph;" ∈ BW := BW_of (List.mem_append_right _ (List.mem_of_getElem? (i := 277) (by decide +kernel))) (by decide +kernel)
theorem fn_X10_321 : Cond.fieldLinkNest RX10 321 "FlagChamber$Graph" "order" "[I" "FlagChamber" ∈ tables_1 := List.mem_of_getElem? (i := 88) (by decide +kernel)
theorem fn_X10_281 : Cond.fieldLinkNest RX10 281 "FlagChamber$Past" "holders" "[I" "FlagChamber" ∈ tables_1 := List.mem_of_getElem? (i := 224) (by decide +kernel)
theorem fn_X10_198 : Cond.fieldLinkNest RX10 198 "FlagChamber$Graph" "targets" "[I" "FlagChamber" ∈ tables_1 := List.mem_of_getElem? (i := 85) (by decide +kernel)
theorem im_X10_decidedView : Cond.instanceMethod yX10_decidedView ∈ BW := BW_of (List.mem_append_right _ (List.mem_of_getElem? (i := 589) (by decide +kernel))) (by decide +kernel)
theorem iv_X10_decidedView : Cond.instanceMethod yX10_decidedView ∈ BW ∧ Cond.selects (yX10_decidedView).cls yX10_decidedView yX10_decidedView ∈ BW := ⟨im_X10_decidedView, BW_of (List.mem_append_left _ (List.mem_of_getElem? (i := 12) (by decide +kernel))) (by decide +kernel)⟩
theorem fn_X10_324 : Cond.fieldLinkNest RX10 324 "FlagChamber$Past" "frozen" "[I" "FlagChamber" ∈ tables_1 := List.mem_of_getElem? (i := 226) (by decide +kernel)
theorem me_X10_findViews : jMe yX10_findViews cX10_findViews 8 none 4 := ⟨BW_of (List.mem_append_right _ (List.mem_of_getElem? (i := 586) (by decide +kernel))) (by decide +kernel), in_X10, by decide +kernel⟩
theorem me_X10_differ : jMe yX10_differ cX10_differ 3 (some .boolean) 2 := ⟨BW_of (List.mem_append_right _ (List.mem_of_getElem? (i := 621) (by decide +kernel))) (by decide +kernel), in_X10, by decide +kernel⟩
theorem fl_X10_62 : Cond.fieldLink RX10 62 "FlagChamber" "views" "[I" ∈ BW := BW_of (List.mem_append_right _ (List.mem_of_getElem? (i := 282) (by decide +kernel))) (by decide +kernel)
theorem fl_X10_53 : Cond.fieldLink RX10 53 "FlagChamber" "pasts" "[LFlagChamber$Past;" ∈ BW := BW_of (List.mem_append_right _ (List.mem_of_getElem? (i := 280) (by decide +kernel))) (by decide +kernel)
theorem fl_X10_66 : Cond.fieldLink RX10 66 "FlagChamber" "otherViews" "[I" ∈ BW := BW_of (List.mem_append_right _ (List.mem_of_getElem? (i := 283) (by decide +kernel))) (by decide +kernel)
theorem st_X10_differ : Cond.static yX10_differ ∈ BW := BW_of (List.mem_append_right _ (List.mem_of_getElem? (i := 620) (by decide +kernel))) (by decide +kernel)
theorem im_X10_findViews : Cond.instanceMethod yX10_findViews ∈ BW := BW_of (List.mem_append_right _ (List.mem_of_getElem? (i := 585) (by decide +kernel))) (by decide +kernel)
theorem iv_X10_findViews : Cond.instanceMethod yX10_findViews ∈ BW ∧ Cond.selects (yX10_findViews).cls yX10_findViews yX10_findViews ∈ BW := ⟨im_X10_findViews, BW_of (List.mem_append_left _ (List.mem_of_getElem? (i := 11) (by decide +kernel))) (by decide +kernel)⟩
theorem me_X10_wouldMove : jMe yX10_wouldMove cX10_wouldMove 4 (some .int) 1 := ⟨BW_of (List.mem_append_right _ (List.mem_of_getElem? (i := 582) (by decide +kernel))) (by decide +kernel), in_X10, by decide +kernel⟩
theorem me_X10_isIn : jMe yX10_isIn cX10_isIn 3 (some .boolean) 2 := ⟨BW_of (List.mem_append_right _ (List.mem_of_getElem? (i := 936) (by decide +kernel))) (by decide +kernel), in_X10, by decide +kernel⟩
theorem me_X10_checkFlag : jMe yX10_checkFlag cX10_checkFlag 1 none 1 := ⟨BW_of (List.mem_append_right _ (List.mem_of_getElem? (i := 632) (by decide +kernel))) (by decide +kernel), in_X10, by decide +kernel⟩
theorem fn_X10_178 : Cond.fieldLinkNest RX10 178 "FlagChamber$Flag" "count" "I" "FlagChamber" ∈ tables_1 := List.mem_of_getElem? (i := 246) (by decide +kernel)
theorem im_X3_insert : Cond.instanceMethod yX3_insert ∈ BW := BW_of (List.mem_append_right _ (List.mem_of_getElem? (i := 651) (by decide +kernel))) (by decide +kernel)
theorem iv_X3_insert : Cond.instanceMethod yX3_insert ∈ BW ∧ Cond.selects (yX3_insert).cls yX3_insert yX3_insert ∈ BW := ⟨im_X3_insert, BW_of (List.mem_append_right _ (List.mem_of_getElem? (i := 652) (by decide +kernel))) (by decide +kernel)⟩
theorem sr_X10_183 : Cond.stringRef RX10 183 "the flag has all the rules that it can have" ∈ tables_1 := List.mem_of_getElem? (i := 649) (by decide +kernel)
set_option maxRecDepth 100000 in
theorem th_X10_3_135_139 : jTh RX10 3 135 139 := by
  have h : ∀ w ∈ Cond.classLink RX10 135 (jE 3) :: Cond.initialized (jE 3) :: vx_atS RX10 139 (jE 3) ["java/lang/RuntimeException", "java/lang/Exception"], (w ∈ lw_tbl ∧ goodWord w = true) ∨ (w ∈ tables_1 ∧ jNest w = true) := by decide +kernel
  have h0 := h _ List.mem_cons_self
  have h1 := h _ (List.mem_cons_of_mem _ List.mem_cons_self)
  have nn : ∀ w : Cond, (w ∈ tables_1 ∧ jNest w = true) → jNest w = true := fun _ h => h.2
  refine ⟨by decide, by decide +kernel, ?_, ?_, fun w hw => (h w (List.mem_cons_of_mem _ (List.mem_cons_of_mem _ hw))).imp (fun h => BW_of h.1 h.2) id, by decide +kernel⟩
  · exact h0.elim (fun h => BW_of h.1 h.2) (fun h => nomatch (show false = true from h.2))
  · exact h1.elim (fun h => BW_of h.1 h.2) (fun h => nomatch (show false = true from h.2))
theorem sr_X10_181 : Cond.stringRef RX10 181 "there is no such place" ∈ tables_1 := List.mem_of_getElem? (i := 642) (by decide +kernel)
theorem st_X10_checkFlag : Cond.static yX10_checkFlag ∈ BW := BW_of (List.mem_append_right _ (List.mem_of_getElem? (i := 631) (by decide +kernel))) (by decide +kernel)
theorem me_X10_addRule : jMe yX10_addRule cX10_addRule 6 (some .int) 4 := ⟨BW_of (List.mem_append_right _ (List.mem_of_getElem? (i := 629) (by decide +kernel))) (by decide +kernel), in_X10, by decide +kernel⟩
theorem im_X3_delete : Cond.instanceMethod yX3_delete ∈ BW := BW_of (List.mem_append_right _ (List.mem_of_getElem? (i := 663) (by decide +kernel))) (by decide +kernel)
theorem iv_X3_delete : Cond.instanceMethod yX3_delete ∈ BW ∧ Cond.selects (yX3_delete).cls yX3_delete yX3_delete ∈ BW := ⟨im_X3_delete, BW_of (List.mem_append_right _ (List.mem_of_getElem? (i := 664) (by decide +kernel))) (by decide +kernel)⟩
theorem sr_X10_188 : Cond.stringRef RX10 188 "there is no such rule" ∈ tables_1 := List.mem_of_getElem? (i := 661) (by decide +kernel)
theorem me_X10_removeRule : jMe yX10_removeRule cX10_removeRule 5 (some .int) 2 := ⟨BW_of (List.mem_append_right _ (List.mem_of_getElem? (i := 660) (by decide +kernel))) (by decide +kernel), in_X10, by decide +kernel⟩
theorem me_X10_rules : jMe yX10_rules cX10_rules 2 (some .int) 1 := ⟨BW_of (List.mem_append_right _ (List.mem_of_getElem? (i := 920) (by decide +kernel))) (by decide +kernel), in_X10, by decide +kernel⟩
theorem sr_X10_204 : Cond.stringRef RX10 204 "some flag would need itself" ∈ tables_1 := List.mem_of_getElem? (i := 675) (by decide +kernel)
theorem sr_X10_196 : Cond.stringRef RX10 196 "a flag does not need itself" ∈ tables_1 := List.mem_of_getElem? (i := 673) (by decide +kernel)
theorem me_X10_setNeed : jMe yX10_setNeed cX10_setNeed 6 (some .boolean) 3 := ⟨BW_of (List.mem_append_right _ (List.mem_of_getElem? (i := 672) (by decide +kernel))) (by decide +kernel), in_X10, by decide +kernel⟩
theorem me_X10_viewNow : jMe yX10_viewNow cX10_viewNow 3 (some .int) 2 := ⟨BW_of (List.mem_append_right _ (List.mem_of_getElem? (i := 858) (by decide +kernel))) (by decide +kernel), in_X10, by decide +kernel⟩
theorem im_X10_viewNow : Cond.instanceMethod yX10_viewNow ∈ BW := BW_of (List.mem_append_right _ (List.mem_of_getElem? (i := 857) (by decide +kernel))) (by decide +kernel)
theorem iv_X10_viewNow : Cond.instanceMethod yX10_viewNow ∈ BW ∧ Cond.selects (yX10_viewNow).cls yX10_viewNow yX10_viewNow ∈ BW := ⟨im_X10_viewNow, BW_of (List.mem_append_left _ (List.mem_of_getElem? (i := 25) (by decide +kernel))) (by decide +kernel)⟩
theorem me_X10_view : jMe yX10_view cX10_view 3 (some .int) 2 := ⟨BW_of (List.mem_append_right _ (List.mem_of_getElem? (i := 924) (by decide +kernel))) (by decide +kernel), in_X10, by decide +kernel⟩
theorem me_X10_ruleFor : jMe yX10_ruleFor cX10_ruleFor 3 (some .int) 2 := ⟨BW_of (List.mem_append_right _ (List.mem_of_getElem? (i := 955) (by decide +kernel))) (by decide +kernel), in_X10, by decide +kernel⟩
theorem me_X10_checkVariant : jMe yX10_checkVariant cX10_checkVariant 1 none 1 := ⟨BW_of (List.mem_append_right _ (List.mem_of_getElem? (i := 713) (by decide +kernel))) (by decide +kernel), in_X10, by decide +kernel⟩
theorem st_X10_checkVariant : Cond.static yX10_checkVariant ∈ BW := BW_of (List.mem_append_right _ (List.mem_of_getElem? (i := 712) (by decide +kernel))) (by decide +kernel)
theorem me_X10_reach : jMe yX10_reach cX10_reach 5 (some .int) 2 := ⟨BW_of (List.mem_append_right _ (List.mem_of_getElem? (i := 951) (by decide +kernel))) (by decide +kernel), in_X10, by decide +kernel⟩
theorem me_X10_checkTrial : jMe yX10_checkTrial cX10_checkTrial 1 none 1 := ⟨BW_of (List.mem_append_right _ (List.mem_of_getElem? (i := 686) (by decide +kernel))) (by decide +kernel), in_X10, by decide +kernel⟩
theorem fn_X10_288 : Cond.fieldLinkNest RX10 288 "FlagChamber$Trial" "held" "Z" "FlagChamber" ∈ tables_1 := List.mem_of_getElem? (i := 264) (by decide +kernel)
theorem sr_X10_310 : Cond.stringRef RX10 310 "the trial is held" ∈ tables_1 := List.mem_of_getElem? (i := 691) (by decide +kernel)
theorem me_X10_checkNotHeld : jMe yX10_checkNotHeld cX10_checkNotHeld 2 none 1 := ⟨BW_of (List.mem_append_right _ (List.mem_of_getElem? (i := 690) (by decide +kernel))) (by decide +kernel), in_X10, by decide +kernel⟩
theorem im_X9_share : Cond.instanceMethod yX9_share ∈ BW := BW_of (List.mem_append_right _ (List.mem_of_getElem? (i := 694) (by decide +kernel))) (by decide +kernel)
theorem iv_X9_share : Cond.instanceMethod yX9_share ∈ BW ∧ Cond.selects (yX9_share).cls yX9_share yX9_share ∈ BW := ⟨im_X9_share, BW_of (List.mem_append_right _ (List.mem_of_getElem? (i := 695) (by decide +kernel))) (by decide +kernel)⟩
theorem im_X10_checkNotHeld : Cond.instanceMethod yX10_checkNotHeld ∈ BW := BW_of (List.mem_append_right _ (List.mem_of_getElem? (i := 689) (by decide +kernel))) (by decide +kernel)
theorem iv_X10_checkNotHeld : Cond.instanceMethod yX10_checkNotHeld ∈ BW ∧ Cond.selects (yX10_checkNotHeld).cls yX10_checkNotHeld yX10_checkNotHeld ∈ BW := ⟨im_X10_checkNotHeld, BW_of (List.mem_append_left _ (List.mem_of_getElem? (i := 14) (by decide +kernel))) (by decide +kernel)⟩
theorem st_X10_checkTrial : Cond.static yX10_checkTrial ∈ BW := BW_of (List.mem_append_right _ (List.mem_of_getElem? (i := 685) (by decide +kernel))) (by decide +kernel)
theorem me_X10_setShares : jMe yX10_setShares cX10_setShares 7 (some .int) 5 := ⟨BW_of (List.mem_append_right _ (List.mem_of_getElem? (i := 683) (by decide +kernel))) (by decide +kernel), in_X10, by decide +kernel⟩
theorem fn_X10_269 : Cond.fieldLinkNest RX10 269 "FlagChamber$Trial" "salt" "I" "FlagChamber" ∈ tables_1 := List.mem_of_getElem? (i := 261) (by decide +kernel)
theorem me_X10_setSalt : jMe yX10_setSalt cX10_setSalt 4 (some .int) 2 := ⟨BW_of (List.mem_append_right _ (List.mem_of_getElem? (i := 703) (by decide +kernel))) (by decide +kernel), in_X10, by decide +kernel⟩
theorem me_X10_armNow : jMe yX10_armNow cX10_armNow 3 (some .int) 2 := ⟨BW_of (List.mem_append_right _ (List.mem_of_getElem? (i := 717) (by decide +kernel))) (by decide +kernel), in_X10, by decide +kernel⟩
theorem fn_X10_275 : Cond.fieldLinkNest RX10 275 "FlagChamber$Trial" "stoppedTo" "I" "FlagChamber" ∈ tables_1 := List.mem_of_getElem? (i := 263) (by decide +kernel)
theorem im_X10_armNow : Cond.instanceMethod yX10_armNow ∈ BW := BW_of (List.mem_append_right _ (List.mem_of_getElem? (i := 716) (by decide +kernel))) (by decide +kernel)
theorem iv_X10_armNow : Cond.instanceMethod yX10_armNow ∈ BW ∧ Cond.selects (yX10_armNow).cls yX10_armNow yX10_armNow ∈ BW := ⟨im_X10_armNow, BW_of (List.mem_append_left _ (List.mem_of_getElem? (i := 15) (by decide +kernel))) (by decide +kernel)⟩
theorem me_X10_stop : jMe yX10_stop cX10_stop 5 (some .int) 2 := ⟨BW_of (List.mem_append_right _ (List.mem_of_getElem? (i := 710) (by decide +kernel))) (by decide +kernel), in_X10, by decide +kernel⟩
theorem me_X10_arm : jMe yX10_arm cX10_arm 3 (some .int) 2 := ⟨BW_of (List.mem_append_right _ (List.mem_of_getElem? (i := 944) (by decide +kernel))) (by decide +kernel), in_X10, by decide +kernel⟩
theorem me_X10_kept : jMe yX10_kept cX10_kept 3 (some .int) 2 := ⟨BW_of (List.mem_append_right _ (List.mem_of_getElem? (i := 940) (by decide +kernel))) (by decide +kernel), in_X10, by decide +kernel⟩
theorem me_X10_isHeld : jMe yX10_isHeld cX10_isHeld 3 (some .boolean) 2 := ⟨BW_of (List.mem_append_right _ (List.mem_of_getElem? (i := 928) (by decide +kernel))) (by decide +kernel), in_X10, by decide +kernel⟩
theorem fn_X10_300 : Cond.fieldLinkNest RX10 300 "FlagChamber$Past" "shown" "[I" "FlagChamber" ∈ tables_1 := List.mem_of_getElem? (i := 222) (by decide +kernel)
theorem me_X10_shownLast : jMe yX10_shownLast cX10_shownLast 3 (some .int) 2 := ⟨BW_of (List.mem_append_right _ (List.mem_of_getElem? (i := 932) (by decide +kernel))) (by decide +kernel), in_X10, by decide +kernel⟩
theorem me_X10_needsZero : jMe yX10_needsZero cX10_needsZero 4 (some .boolean) 2 := ⟨BW_of (List.mem_append_right _ (List.mem_of_getElem? (i := 905) (by decide +kernel))) (by decide +kernel), in_X10, by decide +kernel⟩
theorem im_X10_needsZero : Cond.instanceMethod yX10_needsZero ∈ BW := BW_of (List.mem_append_right _ (List.mem_of_getElem? (i := 904) (by decide +kernel))) (by decide +kernel)
theorem iv_X10_needsZero : Cond.instanceMethod yX10_needsZero ∈ BW ∧ Cond.selects (yX10_needsZero).cls yX10_needsZero yX10_needsZero ∈ BW := ⟨im_X10_needsZero, BW_of (List.mem_append_left _ (List.mem_of_getElem? (i := 27) (by decide +kernel))) (by decide +kernel)⟩
theorem me_X10_trialThatShows : jMe yX10_trialThatShows cX10_trialThatShows 4 (some .int) 2 := ⟨BW_of (List.mem_append_right _ (List.mem_of_getElem? (i := 901) (by decide +kernel))) (by decide +kernel), in_X10, by decide +kernel⟩
theorem me_X10_keeps : jMe yX10_keeps cX10_keeps 3 (some .boolean) 2 := ⟨BW_of (List.mem_append_right _ (List.mem_of_getElem? (i := 909) (by decide +kernel))) (by decide +kernel), in_X10, by decide +kernel⟩
end WRD
