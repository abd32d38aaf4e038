section WRD
theorem ml_L_8 : Cond.methodLink RL 8 yX10_setAttribute ∈ BW := BW_of (List.mem_append_right _ (List.mem_of_getElem? (i := 319) (by decide +kernel))) (by decide +kernel)
theorem im_X10_setAttribute : Cond.instanceMethod yX10_setAttribute ∈ BW := BW_of (List.mem_append_right _ (List.mem_of_getElem? (i := 320) (by decide +kernel))) (by decide +kernel)
theorem iv_X10_setAttribute : Cond.instanceMethod yX10_setAttribute ∈ BW ∧ Cond.selects (yX10_setAttribute).cls yX10_setAttribute yX10_setAttribute ∈ BW := ⟨im_X10_setAttribute, BW_of (List.mem_append_right _ (List.mem_of_getElem? (i := 321) (by decide +kernel))) (by decide +kernel)⟩
theorem cl_L_14 : Cond.classLink RL 14 (jE 1) ∈ BW := BW_of (List.mem_append_right _ (List.mem_of_getElem? (i := 318) (by decide +kernel))) (by decide +kernel)
theorem ca_E1 : Cond.castable (jE 1) (jE 1) ∈ tables_1 := List.mem_of_getElem? (i := 331) (by decide +kernel)
theorem kc_L_16 : Cond.constant RL 16 (-99999) ∈ BW := BW_of (List.mem_append_right _ (List.mem_of_getElem? (i := 449) (by decide +kernel))) (by decide +kernel)
theorem ml_L_17 : Cond.methodLink RL 17 yX10_setTag ∈ BW := BW_of (List.mem_append_right _ (List.mem_of_getElem? (i := 453) (by decide +kernel))) (by decide +kernel)
theorem im_X10_setTag : Cond.instanceMethod yX10_setTag ∈ BW := BW_of (List.mem_append_right _ (List.mem_of_getElem? (i := 454) (by decide +kernel))) (by decide +kernel)
theorem iv_X10_setTag : Cond.instanceMethod yX10_setTag ∈ BW ∧ Cond.selects (yX10_setTag).cls yX10_setTag yX10_setTag ∈ BW := ⟨im_X10_setTag, BW_of (List.mem_append_right _ (List.mem_of_getElem? (i := 455) (by decide +kernel))) (by decide +kernel)⟩
theorem ml_L_21 : Cond.methodLink RL 21 yX10_type ∈ BW := BW_of (List.mem_append_right _ (List.mem_of_getElem? (i := 463) (by decide +kernel))) (by decide +kernel)
theorem im_X10_type : Cond.instanceMethod yX10_type ∈ BW := BW_of (List.mem_append_right _ (List.mem_of_getElem? (i := 464) (by decide +kernel))) (by decide +kernel)
theorem iv_X10_type : Cond.instanceMethod yX10_type ∈ BW ∧ Cond.selects (yX10_type).cls yX10_type yX10_type ∈ BW := ⟨im_X10_type, BW_of (List.mem_append_right _ (List.mem_of_getElem? (i := 465) (by decide +kernel))) (by decide +kernel)⟩
theorem cl_L_25 : Cond.classLink RL 25 (jE 2) ∈ BW := BW_of (List.mem_append_right _ (List.mem_of_getElem? (i := 462) (by decide +kernel))) (by decide +kernel)
theorem ca_E2 : Cond.castable (jE 2) (jE 2) ∈ tables_1 := List.mem_of_getElem? (i := 472) (by decide +kernel)
theorem ml_L_27 : Cond.methodLink RL 27 yX10_erase ∈ BW := BW_of (List.mem_append_right _ (List.mem_of_getElem? (i := 493) (by decide +kernel))) (by decide +kernel)
theorem im_X10_erase : Cond.instanceMethod yX10_erase ∈ BW := BW_of (List.mem_append_right _ (List.mem_of_getElem? (i := 494) (by decide +kernel))) (by decide +kernel)
theorem iv_X10_erase : Cond.instanceMethod yX10_erase ∈ BW ∧ Cond.selects (yX10_erase).cls yX10_erase yX10_erase ∈ BW := ⟨im_X10_erase, BW_of (List.mem_append_right _ (List.mem_of_getElem? (i := 495) (by decide +kernel))) (by decide +kernel)⟩
theorem ml_L_30 : Cond.methodLink RL 30 yX10_set ∈ BW := BW_of (List.mem_append_right _ (List.mem_of_getElem? (i := 532) (by decide +kernel))) (by decide +kernel)
theorem im_X10_set : Cond.instanceMethod yX10_set ∈ BW := BW_of (List.mem_append_right _ (List.mem_of_getElem? (i := 533) (by decide +kernel))) (by decide +kernel)
theorem iv_X10_set : Cond.instanceMethod yX10_set ∈ BW ∧ Cond.selects (yX10_set).cls yX10_set yX10_set ∈ BW := ⟨im_X10_set, BW_of (List.mem_append_right _ (List.mem_of_getElem? (i := 534) (by decide +kernel))) (by decide +kernel)⟩
theorem ml_L_34 : Cond.methodLink RL 34 yX10_wouldMove ∈ BW := BW_of (List.mem_append_right _ (List.mem_of_getElem? (i := 579) (by decide +kernel))) (by decide +kernel)
theorem im_X10_wouldMove : Cond.instanceMethod yX10_wouldMove ∈ BW := BW_of (List.mem_append_right _ (List.mem_of_getElem? (i := 580) (by decide +kernel))) (by decide +kernel)
theorem iv_X10_wouldMove : Cond.instanceMethod yX10_wouldMove ∈ BW ∧ Cond.selects (yX10_wouldMove).cls yX10_wouldMove yX10_wouldMove ∈ BW := ⟨im_X10_wouldMove, BW_of (List.mem_append_right _ (List.mem_of_getElem? (i := 581) (by decide +kernel))) (by decide +kernel)⟩
theorem ml_L_37 : Cond.methodLink RL 37 yX10_addRule ∈ BW := BW_of (List.mem_append_right _ (List.mem_of_getElem? (i := 626) (by decide +kernel))) (by decide +kernel)
theorem im_X10_addRule : Cond.instanceMethod yX10_addRule ∈ BW := BW_of (List.mem_append_right _ (List.mem_of_getElem? (i := 627) (by decide +kernel))) (by decide +kernel)
theorem iv_X10_addRule : Cond.instanceMethod yX10_addRule ∈ BW ∧ Cond.selects (yX10_addRule).cls yX10_addRule yX10_addRule ∈ BW := ⟨im_X10_addRule, BW_of (List.mem_append_right _ (List.mem_of_getElem? (i := 628) (by decide +kernel))) (by decide +kernel)⟩
theorem cl_L_41 : Cond.classLink RL 41 (jE 3) ∈ BW := BW_of (List.mem_append_right _ (List.mem_of_getElem? (i := 625) (by decide +kernel))) (by decide +kernel)
theorem ca_E3 : Cond.castable (jE 3) (jE 3) ∈ tables_1 := List.mem_of_getElem? (i := 635) (by decide +kernel)
theorem ml_L_43 : Cond.methodLink RL 43 yX10_removeRule ∈ BW := BW_of (List.mem_append_right _ (List.mem_of_getElem? (i := 657) (by decide +kernel))) (by decide +kernel)
theorem im_X10_removeRule : Cond.instanceMethod yX10_removeRule ∈ BW := BW_of (List.mem_append_right _ (List.mem_of_getElem? (i := 658) (by decide +kernel))) (by decide +kernel)
theorem iv_X10_removeRule : Cond.instanceMethod yX10_removeRule ∈ BW ∧ Cond.selects (yX10_removeRule).cls yX10_removeRule yX10_removeRule ∈ BW := ⟨im_X10_removeRule, BW_of (List.mem_append_right _ (List.mem_of_getElem? (i := 659) (by decide +kernel))) (by decide +kernel)⟩
theorem ml_L_46 : Cond.methodLink RL 46 yX10_setNeed ∈ BW := BW_of (List.mem_append_right _ (List.mem_of_getElem? (i := 669) (by decide +kernel))) (by decide +kernel)
theorem im_X10_setNeed : Cond.instanceMethod yX10_setNeed ∈ BW := BW_of (List.mem_append_right _ (List.mem_of_getElem? (i := 670) (by decide +kernel))) (by decide +kernel)
theorem iv_X10_setNeed : Cond.instanceMethod yX10_setNeed ∈ BW ∧ Cond.selects (yX10_setNeed).cls yX10_setNeed yX10_setNeed ∈ BW := ⟨im_X10_setNeed, BW_of (List.mem_append_right _ (List.mem_of_getElem? (i := 671) (by decide +kernel))) (by decide +kernel)⟩
theorem ml_L_49 : Cond.methodLink RL 49 yX10_show ∈ BW := BW_of (List.mem_append_right _ (List.mem_of_getElem? (i := 894) (by decide +kernel))) (by decide +kernel)
theorem im_X10_show : Cond.instanceMethod yX10_show ∈ BW := BW_of (List.mem_append_right _ (List.mem_of_getElem? (i := 895) (by decide +kernel))) (by decide +kernel)
theorem iv_X10_show : Cond.instanceMethod yX10_show ∈ BW ∧ Cond.selects (yX10_show).cls yX10_show yX10_show ∈ BW := ⟨im_X10_show, BW_of (List.mem_append_right _ (List.mem_of_getElem? (i := 896) (by decide +kernel))) (by decide +kernel)⟩
theorem ml_L_52 : Cond.methodLink RL 52 yX10_setShares ∈ BW := BW_of (List.mem_append_right _ (List.mem_of_getElem? (i := 680) (by decide +kernel))) (by decide +kernel)
theorem im_X10_setShares : Cond.instanceMethod yX10_setShares ∈ BW := BW_of (List.mem_append_right _ (List.mem_of_getElem? (i := 681) (by decide +kernel))) (by decide +kernel)
theorem iv_X10_setShares : Cond.instanceMethod yX10_setShares ∈ BW ∧ Cond.selects (yX10_setShares).cls yX10_setShares yX10_setShares ∈ BW := ⟨im_X10_setShares, BW_of (List.mem_append_right _ (List.mem_of_getElem? (i := 682) (by decide +kernel))) (by decide +kernel)⟩
theorem ml_L_56 : Cond.methodLink RL 56 yX10_setSalt ∈ BW := BW_of (List.mem_append_right _ (List.mem_of_getElem? (i := 700) (by decide +kernel))) (by decide +kernel)
theorem im_X10_setSalt : Cond.instanceMethod yX10_setSalt ∈ BW := BW_of (List.mem_append_right _ (List.mem_of_getElem? (i := 701) (by decide +kernel))) (by decide +kernel)
theorem iv_X10_setSalt : Cond.instanceMethod yX10_setSalt ∈ BW ∧ Cond.selects (yX10_setSalt).cls yX10_setSalt yX10_setSalt ∈ BW := ⟨im_X10_setSalt, BW_of (List.mem_append_right _ (List.mem_of_getElem? (i := 702) (by decide +kernel))) (by decide +kernel)⟩
theorem ml_L_59 : Cond.methodLink RL 59 yX10_stop ∈ BW := BW_of (List.mem_append_right _ (List.mem_of_getElem? (i := 707) (by decide +kernel))) (by decide +kernel)
theorem im_X10_stop : Cond.instanceMethod yX10_stop ∈ BW := BW_of (List.mem_append_right _ (List.mem_of_getElem? (i := 708) (by decide +kernel))) (by decide +kernel)
theorem iv_X10_stop : Cond.instanceMethod yX10_stop ∈ BW ∧ Cond.selects (yX10_stop).cls yX10_stop yX10_stop ∈ BW := ⟨im_X10_stop, BW_of (List.mem_append_right _ (List.mem_of_getElem? (i := 709) (by decide +kernel))) (by decide +kernel)⟩
theorem ml_L_62 : Cond.methodLink RL 62 yX10_beginAnew ∈ BW := BW_of (List.mem_append_right _ (List.mem_of_getElem? (i := 721) (by decide +kernel))) (by decide +kernel)
theorem im_X10_beginAnew : Cond.instanceMethod yX10_beginAnew ∈ BW := BW_of (List.mem_append_right _ (List.mem_of_getElem? (i := 722) (by decide +kernel))) (by decide +kernel)
theorem iv_X10_beginAnew : Cond.instanceMethod yX10_beginAnew ∈ BW ∧ Cond.selects (yX10_beginAnew).cls yX10_beginAnew yX10_beginAnew ∈ BW := ⟨im_X10_beginAnew, BW_of (List.mem_append_right _ (List.mem_of_getElem? (i := 723) (by decide +kernel))) (by decide +kernel)⟩
theorem ml_L_65 : Cond.methodLink RL 65 yX10_hold ∈ BW := BW_of (List.mem_append_right _ (List.mem_of_getElem? (i := 850) (by decide +kernel))) (by decide +kernel)
theorem im_X10_hold : Cond.instanceMethod yX10_hold ∈ BW := BW_of (List.mem_append_right _ (List.mem_of_getElem? (i := 851) (by decide +kernel))) (by decide +kernel)
theorem iv_X10_hold : Cond.instanceMethod yX10_hold ∈ BW ∧ Cond.selects (yX10_hold).cls yX10_hold yX10_hold ∈ BW := ⟨im_X10_hold, BW_of (List.mem_append_right _ (List.mem_of_getElem? (i := 852) (by decide +kernel))) (by decide +kernel)⟩
theorem ml_L_68 : Cond.methodLink RL 68 yX10_release ∈ BW := BW_of (List.mem_append_right _ (List.mem_of_getElem? (i := 862) (by decide +kernel))) (by decide +kernel)
theorem im_X10_release : Cond.instanceMethod yX10_release ∈ BW := BW_of (List.mem_append_right _ (List.mem_of_getElem? (i := 863) (by decide +kernel))) (by decide +kernel)
theorem iv_X10_release : Cond.instanceMethod yX10_release ∈ BW ∧ Cond.selects (yX10_release).cls yX10_release yX10_release ∈ BW := ⟨im_X10_release, BW_of (List.mem_append_right _ (List.mem_of_getElem? (i := 864) (by decide +kernel))) (by decide +kernel)⟩
theorem ml_L_71 : Cond.methodLink RL 71 yX10_holdTrial ∈ BW := BW_of (List.mem_append_right _ (List.mem_of_getElem? (i := 870) (by decide +kernel))) (by decide +kernel)
theorem im_X10_holdTrial : Cond.instanceMethod yX10_holdTrial ∈ BW := BW_of (List.mem_append_right _ (List.mem_of_getElem? (i := 871) (by decide +kernel))) (by decide +kernel)
theorem iv_X10_holdTrial : Cond.instanceMethod yX10_holdTrial ∈ BW ∧ Cond.selects (yX10_holdTrial).cls yX10_holdTrial yX10_holdTrial ∈ BW := ⟨im_X10_holdTrial, BW_of (List.mem_append_right _ (List.mem_of_getElem? (i := 872) (by decide +kernel))) (by decide +kernel)⟩
theorem ml_L_74 : Cond.methodLink RL 74 yX10_releaseTrial ∈ BW := BW_of (List.mem_append_right _ (List.mem_of_getElem? (i := 882) (by decide +kernel))) (by decide +kernel)
theorem im_X10_releaseTrial : Cond.instanceMethod yX10_releaseTrial ∈ BW := BW_of (List.mem_append_right _ (List.mem_of_getElem? (i := 883) (by decide +kernel))) (by decide +kernel)
theorem iv_X10_releaseTrial : Cond.instanceMethod yX10_releaseTrial ∈ BW ∧ Cond.selects (yX10_releaseTrial).cls yX10_releaseTrial yX10_releaseTrial ∈ BW := ⟨im_X10_releaseTrial, BW_of (List.mem_append_right _ (List.mem_of_getElem? (i := 884) (by decide +kernel))) (by decide +kernel)⟩
theorem kc_L_7 : Cond.constant RL 7 (2147483647) ∈ BW := BW_of (List.mem_append_right _ (List.mem_of_getElem? (i := 311) (by decide +kernel))) (by decide +kernel)
theorem in_L : Cond.initialized RL ∈ BW := BW_of (List.mem_append_right _ (List.mem_of_getElem? (i := 0) (by decide +kernel))) (by decide +kernel)
theorem me_L_low : jMe yL_low cL_low 2 (some .int) 2 := ⟨BW_of (List.mem_append_right _ (List.mem_of_getElem? (i := 310) (by decide +kernel))) (by decide +kernel), in_L, by decide +kernel⟩
theorem ml_L_77 : Cond.methodLink RL 77 yX10_fault ∈ BW := BW_of (List.mem_append_right _ (List.mem_of_getElem? (i := 504) (by decide +kernel))) (by decide +kernel)
theorem ml_L_80 : Cond.methodLink RL 80 yL_low ∈ BW := BW_of (List.mem_append_right _ (List.mem_of_getElem? (i := 308) (by decide +kernel))) (by decide +kernel)
theorem st_L_low : Cond.static yL_low ∈ BW := BW_of (List.mem_append_right _ (List.mem_of_getElem? (i := 309) (by decide +kernel))) (by decide +kernel)
theorem im_X10_fault : Cond.instanceMethod yX10_fault ∈ BW := BW_of (List.mem_append_right _ (List.mem_of_getElem? (i := 505) (by decide +kernel))) (by decide +kernel)
theorem iv_X10_fault : Cond.instanceMethod yX10_fault ∈ BW ∧ Cond.selects (yX10_fault).cls yX10_fault yX10_fault ∈ BW := ⟨im_X10_fault, BW_of (List.mem_append_right _ (List.mem_of_getElem? (i := 506) (by decide +kernel))) (by decide +kernel)⟩
theorem me_L_typeTest : jMe yL_typeTest cL_typeTest 5 (some .int) 3 := ⟨BW_of (List.mem_append_right _ (List.mem_of_getElem? (i := 503) (by decide +kernel))) (by decide +kernel), in_L, by decide +kernel⟩
theorem ml_L_85 : Cond.methodLink RL 85 yL_setAttribute ∈ BW := BW_of (List.mem_append_right _ (List.mem_of_getElem? (i := 315) (by decide +kernel))) (by decide +kernel)
theorem ml_L_88 : Cond.methodLink RL 88 yL_setTag ∈ BW := BW_of (List.mem_append_right _ (List.mem_of_getElem? (i := 450) (by decide +kernel))) (by decide +kernel)
theorem ml_L_91 : Cond.methodLink RL 91 yL_type ∈ BW := BW_of (List.mem_append_right _ (List.mem_of_getElem? (i := 459) (by decide +kernel))) (by decide +kernel)
theorem ml_L_94 : Cond.methodLink RL 94 yL_erase ∈ BW := BW_of (List.mem_append_right _ (List.mem_of_getElem? (i := 490) (by decide +kernel))) (by decide +kernel)
theorem ml_L_96 : Cond.methodLink RL 96 yL_typeTest ∈ BW := BW_of (List.mem_append_right _ (List.mem_of_getElem? (i := 501) (by decide +kernel))) (by decide +kernel)
theorem ml_L_99 : Cond.methodLink RL 99 yL_set ∈ BW := BW_of (List.mem_append_right _ (List.mem_of_getElem? (i := 529) (by decide +kernel))) (by decide +kernel)
theorem ml_L_102 : Cond.methodLink RL 102 yL_wouldMove ∈ BW := BW_of (List.mem_append_right _ (List.mem_of_getElem? (i := 576) (by decide +kernel))) (by decide +kernel)
theorem ml_L_104 : Cond.methodLink RL 104 yL_addRule ∈ BW := BW_of (List.mem_append_right _ (List.mem_of_getElem? (i := 622) (by decide +kernel))) (by decide +kernel)
theorem ml_L_107 : Cond.methodLink RL 107 yL_removeRule ∈ BW := BW_of (List.mem_append_right _ (List.mem_of_getElem? (i := 654) (by decide +kernel))) (by decide +kernel)
theorem ml_L_109 : Cond.methodLink RL 109 yL_setNeed ∈ BW := BW_of (List.mem_append_right _ (List.mem_of_getElem? (i := 666) (by decide +kernel))) (by decide +kernel)
theorem ml_L_111 : Cond.methodLink RL 111 yL_setShares ∈ BW := BW_of (List.mem_append_right _ (List.mem_of_getElem? (i := 677) (by decide +kernel))) (by decide +kernel)
theorem ml_L_114 : Cond.methodLink RL 114 yL_setSalt ∈ BW := BW_of (List.mem_append_right _ (List.mem_of_getElem? (i := 697) (by decide +kernel))) (by decide +kernel)
theorem ml_L_116 : Cond.methodLink RL 116 yL_stop ∈ BW := BW_of (List.mem_append_right _ (List.mem_of_getElem? (i := 704) (by decide +kernel))) (by decide +kernel)
theorem ml_L_118 : Cond.methodLink RL 118 yL_beginAnew ∈ BW := BW_of (List.mem_append_right _ (List.mem_of_getElem? (i := 718) (by decide +kernel))) (by decide +kernel)
theorem ml_L_120 : Cond.methodLink RL 120 yL_hold ∈ BW := BW_of (List.mem_append_right _ (List.mem_of_getElem? (i := 847) (by decide +kernel))) (by decide +kernel)
theorem ml_L_122 : Cond.methodLink RL 122 yL_release ∈ BW := BW_of (List.mem_append_right _ (List.mem_of_getElem? (i := 859) (by decide +kernel))) (by decide +kernel)
theorem ml_L_124 : Cond.methodLink RL 124 yL_holdTrial ∈ BW := BW_of (List.mem_append_right _ (List.mem_of_getElem? (i := 867) (by decide +kernel))) (by decide +kernel)
theorem ml_L_126 : Cond.methodLink RL 126 yL_releaseTrial ∈ BW := BW_of (List.mem_append_right _ (List.mem_of_getElem? (i := 879) (by decide +kernel))) (by decide +kernel)
theorem ml_L_128 : Cond.methodLink RL 128 yL_show ∈ BW := BW_of (List.mem_append_right _ (List.mem_of_getElem? (i := 891) (by decide +kernel))) (by decide +kernel)
theorem mh_L_setAttribute : jMeH yL_setAttribute cL_setAttribute 5 (some .int) [(0, 7, 8, 14)] 4 := ⟨BW_of (List.mem_append_right _ (List.mem_of_getElem? (i := 317) (by decide +kernel))) (by decide +kernel), in_L, by decide +kernel⟩
theorem st_L_setAttribute : Cond.static yL_setAttribute ∈ BW := BW_of (List.mem_append_right _ (List.mem_of_getElem? (i := 316) (by decide +kernel))) (by decide +kernel)
theorem mh_L_setTag : jMeH yL_setTag cL_setTag 5 (some .int) [(0, 15, 16, 14)] 4 := ⟨BW_of (List.mem_append_right _ (List.mem_of_getElem? (i := 452) (by decide +kernel))) (by decide +kernel), in_L, by decide +kernel⟩
theorem st_L_setTag : Cond.static yL_setTag ∈ BW := BW_of (List.mem_append_right _ (List.mem_of_getElem? (i := 451) (by decide +kernel))) (by decide +kernel)
theorem mh_L_type : jMeH yL_type cL_type 4 (some .int) [(0, 6, 7, 14), (0, 6, 11, 25)] 3 := ⟨BW_of (List.mem_append_right _ (List.mem_of_getElem? (i := 461) (by decide +kernel))) (by decide +kernel), in_L, by decide +kernel⟩
theorem st_L_type : Cond.static yL_type ∈ BW := BW_of (List.mem_append_right _ (List.mem_of_getElem? (i := 460) (by decide +kernel))) (by decide +kernel)
theorem st_L_typeTest : Cond.static yL_typeTest ∈ BW := BW_of (List.mem_append_right _ (List.mem_of_getElem? (i := 502) (by decide +kernel))) (by decide +kernel)
theorem mh_L_erase : jMeH yL_erase cL_erase 4 (some .int) [(0, 6, 7, 14)] 3 := ⟨BW_of (List.mem_append_right _ (List.mem_of_getElem? (i := 492) (by decide +kernel))) (by decide +kernel), in_L, by decide +kernel⟩
theorem st_L_erase : Cond.static yL_erase ∈ BW := BW_of (List.mem_append_right _ (List.mem_of_getElem? (i := 491) (by decide +kernel))) (by decide +kernel)
theorem mh_L_set : jMeH yL_set cL_set 3 (some .int) [(0, 5, 6, 14), (0, 5, 10, 25)] 2 := ⟨BW_of (List.mem_append_right _ (List.mem_of_getElem? (i := 531) (by decide +kernel))) (by decide +kernel), in_L, by decide +kernel⟩
theorem st_L_set : Cond.static yL_set ∈ BW := BW_of (List.mem_append_right _ (List.mem_of_getElem? (i := 530) (by decide +kernel))) (by decide +kernel)
theorem mh_L_wouldMove : jMeH yL_wouldMove cL_wouldMove 3 (some .int) [(0, 5, 6, 14), (0, 5, 10, 25)] 2 := ⟨BW_of (List.mem_append_right _ (List.mem_of_getElem? (i := 578) (by decide +kernel))) (by decide +kernel), in_L, by decide +kernel⟩
theorem st_L_wouldMove : Cond.static yL_wouldMove ∈ BW := BW_of (List.mem_append_right _ (List.mem_of_getElem? (i := 577) (by decide +kernel))) (by decide +kernel)
theorem mh_L_addRule : jMeH yL_addRule cL_addRule 6 (some .int) [(0, 9, 10, 14), (0, 9, 15, 41), (0, 9, 20, 25)] 5 := ⟨BW_of (List.mem_append_right _ (List.mem_of_getElem? (i := 624) (by decide +kernel))) (by decide +kernel), in_L, by decide +kernel⟩
theorem st_L_addRule : Cond.static yL_addRule ∈ BW := BW_of (List.mem_append_right _ (List.mem_of_getElem? (i := 623) (by decide +kernel))) (by decide +kernel)
theorem mh_L_removeRule : jMeH yL_removeRule cL_removeRule 4 (some .int) [(0, 6, 7, 14), (0, 6, 11, 41)] 3 := ⟨BW_of (List.mem_append_right _ (List.mem_of_getElem? (i := 656) (by decide +kernel))) (by decide +kernel), in_L, by decide +kernel⟩
theorem st_L_removeRule : Cond.static yL_removeRule ∈ BW := BW_of (List.mem_append_right _ (List.mem_of_getElem? (i := 655) (by decide +kernel))) (by decide +kernel)
theorem mh_L_setNeed : jMeH yL_setNeed cL_setNeed 5 (some .int) [(0, 15, 16, 14), (0, 15, 21, 25)] 4 := ⟨BW_of (List.mem_append_right _ (List.mem_of_getElem? (i := 668) (by decide +kernel))) (by decide +kernel), in_L, by decide +kernel⟩
theorem st_L_setNeed : Cond.static yL_setNeed ∈ BW := BW_of (List.mem_append_right _ (List.mem_of_getElem? (i := 667) (by decide +kernel))) (by decide +kernel)
theorem mh_L_setShares : jMeH yL_setShares cL_setShares 7 (some .int) [(0, 11, 12, 14), (0, 11, 17, 25)] 6 := ⟨BW_of (List.mem_append_right _ (List.mem_of_getElem? (i := 679) (by decide +kernel))) (by decide +kernel), in_L, by decide +kernel⟩
theorem st_L_setShares : Cond.static yL_setShares ∈ BW := BW_of (List.mem_append_right _ (List.mem_of_getElem? (i := 678) (by decide +kernel))) (by decide +kernel)
theorem mh_L_setSalt : jMeH yL_setSalt cL_setSalt 4 (some .int) [(0, 6, 7, 14), (0, 6, 11, 25)] 3 := ⟨BW_of (List.mem_append_right _ (List.mem_of_getElem? (i := 699) (by decide +kernel))) (by decide +kernel), in_L, by decide +kernel⟩
theorem st_L_setSalt : Cond.static yL_setSalt ∈ BW := BW_of (List.mem_append_right _ (List.mem_of_getElem? (i := 698) (by decide +kernel))) (by decide +kernel)
theorem mh_L_stop : jMeH yL_stop cL_stop 4 (some .int) [(0, 6, 7, 14), (0, 6, 11, 25)] 3 := ⟨BW_of (List.mem_append_right _ (List.mem_of_getElem? (i := 706) (by decide +kernel))) (by decide +kernel), in_L, by decide +kernel⟩
theorem st_L_stop : Cond.static yL_stop ∈ BW := BW_of (List.mem_append_right _ (List.mem_of_getElem? (i := 705) (by decide +kernel))) (by decide +kernel)
theorem mh_L_beginAnew : jMeH yL_beginAnew cL_beginAnew 3 (some .int) [(0, 5, 6, 14), (0, 5, 10, 25)] 2 := ⟨BW_of (List.mem_append_right _ (List.mem_of_getElem? (i := 720) (by decide +kernel))) (by decide +kernel), in_L, by decide +kernel⟩
theorem st_L_beginAnew : Cond.static yL_beginAnew ∈ BW := BW_of (List.mem_append_right _ (List.mem_of_getElem? (i := 719) (by decide +kernel))) (by decide +kernel)
theorem mh_L_hold : jMeH yL_hold cL_hold 4 (some .int) [(0, 6, 7, 14), (0, 6, 11, 25)] 3 := ⟨BW_of (List.mem_append_right _ (List.mem_of_getElem? (i := 849) (by decide +kernel))) (by decide +kernel), in_L, by decide +kernel⟩
theorem st_L_hold : Cond.static yL_hold ∈ BW := BW_of (List.mem_append_right _ (List.mem_of_getElem? (i := 848) (by decide +kernel))) (by decide +kernel)
theorem mh_L_release : jMeH yL_release cL_release 4 (some .int) [(0, 6, 7, 14), (0, 6, 11, 25)] 3 := ⟨BW_of (List.mem_append_right _ (List.mem_of_getElem? (i := 861) (by decide +kernel))) (by decide +kernel), in_L, by decide +kernel⟩
theorem st_L_release : Cond.static yL_release ∈ BW := BW_of (List.mem_append_right _ (List.mem_of_getElem? (i := 860) (by decide +kernel))) (by decide +kernel)
theorem mh_L_holdTrial : jMeH yL_holdTrial cL_holdTrial 3 (some .int) [(0, 5, 6, 14), (0, 5, 10, 25)] 2 := ⟨BW_of (List.mem_append_right _ (List.mem_of_getElem? (i := 869) (by decide +kernel))) (by decide +kernel), in_L, by decide +kernel⟩
theorem st_L_holdTrial : Cond.static yL_holdTrial ∈ BW := BW_of (List.mem_append_right _ (List.mem_of_getElem? (i := 868) (by decide +kernel))) (by decide +kernel)
theorem mh_L_releaseTrial : jMeH yL_releaseTrial cL_releaseTrial 3 (some .int) [(0, 5, 6, 14), (0, 5, 10, 25)] 2 := ⟨BW_of (List.mem_append_right _ (List.mem_of_getElem? (i := 881) (by decide +kernel))) (by decide +kernel), in_L, by decide +kernel⟩
theorem st_L_releaseTrial : Cond.static yL_releaseTrial ∈ BW := BW_of (List.mem_append_right _ (List.mem_of_getElem? (i := 880) (by decide +kernel))) (by decide +kernel)
theorem mh_L_show : jMeH yL_show cL_show 4 (some .int) [(0, 6, 7, 14), (0, 6, 11, 25)] 3 := ⟨BW_of (List.mem_append_right _ (List.mem_of_getElem? (i := 893) (by decide +kernel))) (by decide +kernel), in_L, by decide +kernel⟩
theorem st_L_show : Cond.static yL_show ∈ BW := BW_of (List.mem_append_right _ (List.mem_of_getElem? (i := 892) (by decide +kernel))) (by decide +kernel)
set_option maxRecDepth 100000 in
theorem me_L_act : jMe yL_act cL_act 7 (some .int) 2 := ⟨BW_of (List.mem_append_right _ (List.mem_of_getElem? (i := 314) rfl)) (by decide +kernel), in_L, by decide +kernel⟩
theorem ml_L_156 : Cond.methodLink RL 156 yX10_reach ∈ BW := BW_of (List.mem_append_right _ (List.mem_of_getElem? (i := 948) (by decide +kernel))) (by decide +kernel)
theorem ml_L_137 : Cond.methodLink RL 137 yX10_view ∈ BW := BW_of (List.mem_append_right _ (List.mem_of_getElem? (i := 921) (by decide +kernel))) (by decide +kernel)
theorem ml_L_159 : Cond.methodLink RL 159 yX10_ruleFor ∈ BW := BW_of (List.mem_append_right _ (List.mem_of_getElem? (i := 952) (by decide +kernel))) (by decide +kernel)
theorem ml_L_144 : Cond.methodLink RL 144 yX10_shownLast ∈ BW := BW_of (List.mem_append_right _ (List.mem_of_getElem? (i := 929) (by decide +kernel))) (by decide +kernel)
theorem ml_L_162 : Cond.methodLink RL 162 yX10_viewByLog ∈ BW := BW_of (List.mem_append_right _ (List.mem_of_getElem? (i := 956) (by decide +kernel))) (by decide +kernel)
theorem ml_L_134 : Cond.methodLink RL 134 yX10_rules ∈ BW := BW_of (List.mem_append_right _ (List.mem_of_getElem? (i := 917) (by decide +kernel))) (by decide +kernel)
theorem ml_L_140 : Cond.methodLink RL 140 yX10_isHeld ∈ BW := BW_of (List.mem_append_right _ (List.mem_of_getElem? (i := 925) (by decide +kernel))) (by decide +kernel)
theorem im_X10_rules : Cond.instanceMethod yX10_rules ∈ BW := BW_of (List.mem_append_right _ (List.mem_of_getElem? (i := 918) (by decide +kernel))) (by decide +kernel)
theorem iv_X10_rules : Cond.instanceMethod yX10_rules ∈ BW ∧ Cond.selects (yX10_rules).cls yX10_rules yX10_rules ∈ BW := ⟨im_X10_rules, BW_of (List.mem_append_right _ (List.mem_of_getElem? (i := 919) (by decide +kernel))) (by decide +kernel)⟩
theorem im_X10_viewByLog : Cond.instanceMethod yX10_viewByLog ∈ BW := BW_of (List.mem_append_right _ (List.mem_of_getElem? (i := 957) (by decide +kernel))) (by decide +kernel)
theorem iv_X10_viewByLog : Cond.instanceMethod yX10_viewByLog ∈ BW ∧ Cond.selects (yX10_viewByLog).cls yX10_viewByLog yX10_viewByLog ∈ BW := ⟨im_X10_viewByLog, BW_of (List.mem_append_right _ (List.mem_of_getElem? (i := 958) (by decide +kernel))) (by decide +kernel)⟩
theorem im_X10_isHeld : Cond.instanceMethod yX10_isHeld ∈ BW := BW_of (List.mem_append_right _ (List.mem_of_getElem? (i := 926) (by decide +kernel))) (by decide +kernel)
theorem iv_X10_isHeld : Cond.instanceMethod yX10_isHeld ∈ BW ∧ Cond.selects (yX10_isHeld).cls yX10_isHeld yX10_isHeld ∈ BW := ⟨im_X10_isHeld, BW_of (List.mem_append_right _ (List.mem_of_getElem? (i := 927) (by decide +kernel))) (by decide +kernel)⟩
theorem im_X10_shownLast : Cond.instanceMethod yX10_shownLast ∈ BW := BW_of (List.mem_append_right _ (List.mem_of_getElem? (i := 930) (by decide +kernel))) (by decide +kernel)
theorem iv_X10_shownLast : Cond.instanceMethod yX10_shownLast ∈ BW ∧ Cond.selects (yX10_shownLast).cls yX10_shownLast yX10_shownLast ∈ BW := ⟨im_X10_shownLast, BW_of (List.mem_append_right _ (List.mem_of_getElem? (i := 931) (by decide +kernel))) (by decide +kernel)⟩
theorem im_X10_ruleFor : Cond.instanceMethod yX10_ruleFor ∈ BW := BW_of (List.mem_append_right _ (List.mem_of_getElem? (i := 953) (by decide +kernel))) (by decide +kernel)
theorem iv_X10_ruleFor : Cond.instanceMethod yX10_ruleFor ∈ BW ∧ Cond.selects (yX10_ruleFor).cls yX10_ruleFor yX10_ruleFor ∈ BW := ⟨im_X10_ruleFor, BW_of (List.mem_append_right _ (List.mem_of_getElem? (i := 954) (by decide +kernel))) (by decide +kernel)⟩
theorem im_X10_view : Cond.instanceMethod yX10_view ∈ BW := BW_of (List.mem_append_right _ (List.mem_of_getElem? (i := 922) (by decide +kernel))) (by decide +kernel)
theorem iv_X10_view : Cond.instanceMethod yX10_view ∈ BW ∧ Cond.selects (yX10_view).cls yX10_view yX10_view ∈ BW := ⟨im_X10_view, BW_of (List.mem_append_right _ (List.mem_of_getElem? (i := 923) (by decide +kernel))) (by decide +kernel)⟩
theorem im_X10_reach : Cond.instanceMethod yX10_reach ∈ BW := BW_of (List.mem_append_right _ (List.mem_of_getElem? (i := 949) (by decide +kernel))) (by decide +kernel)
theorem iv_X10_reach : Cond.instanceMethod yX10_reach ∈ BW ∧ Cond.selects (yX10_reach).cls yX10_reach yX10_reach ∈ BW := ⟨im_X10_reach, BW_of (List.mem_append_right _ (List.mem_of_getElem? (i := 950) (by decide +kernel))) (by decide +kernel)⟩
theorem me_L_isFlagSo : jMe yL_isFlagSo cL_isFlagSo 8 (some .boolean) 2 := ⟨BW_of (List.mem_append_right _ (List.mem_of_getElem? (i := 947) (by decide +kernel))) (by decide +kernel), in_L, by decide +kernel⟩
theorem ml_L_153 : Cond.methodLink RL 153 yX10_arm ∈ BW := BW_of (List.mem_append_right _ (List.mem_of_getElem? (i := 941) (by decide +kernel))) (by decide +kernel)
theorem ml_L_150 : Cond.methodLink RL 150 yX10_kept ∈ BW := BW_of (List.mem_append_right _ (List.mem_of_getElem? (i := 937) (by decide +kernel))) (by decide +kernel)
theorem im_X10_kept : Cond.instanceMethod yX10_kept ∈ BW := BW_of (List.mem_append_right _ (List.mem_of_getElem? (i := 938) (by decide +kernel))) (by decide +kernel)
theorem iv_X10_kept : Cond.instanceMethod yX10_kept ∈ BW ∧ Cond.selects (yX10_kept).cls yX10_kept yX10_kept ∈ BW := ⟨im_X10_kept, BW_of (List.mem_append_right _ (List.mem_of_getElem? (i := 939) (by decide +kernel))) (by decide +kernel)⟩
theorem im_X10_arm : Cond.instanceMethod yX10_arm ∈ BW := BW_of (List.mem_append_right _ (List.mem_of_getElem? (i := 942) (by decide +kernel))) (by decide +kernel)
theorem iv_X10_arm : Cond.instanceMethod yX10_arm ∈ BW ∧ Cond.selects (yX10_arm).cls yX10_arm yX10_arm ∈ BW := ⟨im_X10_arm, BW_of (List.mem_append_right _ (List.mem_of_getElem? (i := 943) (by decide +kernel))) (by decide +kernel)⟩
theorem me_L_isTrialSo : jMe yL_isTrialSo cL_isTrialSo 5 (some .boolean) 2 := ⟨BW_of (List.mem_append_right _ (List.mem_of_getElem? (i := 977) (by decide +kernel))) (by decide +kernel), in_L, by decide +kernel⟩
theorem kl_L_165 : Cond.constantLong RL 165 (65535 : Int64) ∈ BW := BW_of (List.mem_append_right _ (List.mem_of_getElem? (i := 981) (by decide +kernel))) (by decide +kernel)
theorem me_L_isMovedSo : jMe yL_isMovedSo cL_isMovedSo 10 (some .boolean) 2 := ⟨BW_of (List.mem_append_right _ (List.mem_of_getElem? (i := 980) (by decide +kernel))) (by decide +kernel), in_L, by decide +kernel⟩
theorem ml_L_130 : Cond.methodLink RL 130 yX10_entries ∈ BW := BW_of (List.mem_append_right _ (List.mem_of_getElem? (i := 913) (by decide +kernel))) (by decide +kernel)
theorem ml_L_147 : Cond.methodLink RL 147 yX10_isIn ∈ BW := BW_of (List.mem_append_right _ (List.mem_of_getElem? (i := 933) (by decide +kernel))) (by decide +kernel)
theorem im_X10_isIn : Cond.instanceMethod yX10_isIn ∈ BW := BW_of (List.mem_append_right _ (List.mem_of_getElem? (i := 934) (by decide +kernel))) (by decide +kernel)
theorem iv_X10_isIn : Cond.instanceMethod yX10_isIn ∈ BW ∧ Cond.selects (yX10_isIn).cls yX10_isIn yX10_isIn ∈ BW := ⟨im_X10_isIn, BW_of (List.mem_append_right _ (List.mem_of_getElem? (i := 935) (by decide +kernel))) (by decide +kernel)⟩
theorem im_X10_entries : Cond.instanceMethod yX10_entries ∈ BW := BW_of (List.mem_append_right _ (List.mem_of_getElem? (i := 914) (by decide +kernel))) (by decide +kernel)
theorem iv_X10_entries : Cond.instanceMethod yX10_entries ∈ BW ∧ Cond.selects (yX10_entries).cls yX10_entries yX10_entries ∈ BW := ⟨im_X10_entries, BW_of (List.mem_append_right _ (List.mem_of_getElem? (i := 915) (by decide +kernel))) (by decide +kernel)⟩
theorem me_L_areAlike : jMe yL_areAlike cL_areAlike 6 (some .boolean) 3 := ⟨BW_of (List.mem_append_right _ (List.mem_of_getElem? (i := 912) (by decide +kernel))) (by decide +kernel), in_L, by decide +kernel⟩
end WRD
