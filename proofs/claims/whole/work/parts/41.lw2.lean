section WRD
theorem ml_L_7 : Cond.methodLink RL 7 yX10_setAttribute ∈ BW := BW_of (List.mem_append_right _ (List.mem_of_getElem? (i := 318) (by decide +kernel))) (by decide +kernel)
theorem im_X10_setAttribute : Cond.instanceMethod yX10_setAttribute ∈ BW := BW_of (List.mem_append_right _ (List.mem_of_getElem? (i := 319) (by decide +kernel))) (by decide +kernel)
theorem iv_X10_setAttribute : Cond.instanceMethod yX10_setAttribute ∈ BW ∧ Cond.selects (yX10_setAttribute).cls yX10_setAttribute yX10_setAttribute ∈ BW := ⟨im_X10_setAttribute, BW_of (List.mem_append_right _ (List.mem_of_getElem? (i := 320) (by decide +kernel))) (by decide +kernel)⟩
theorem cl_L_13 : Cond.classLink RL 13 (jE 1) ∈ BW := BW_of (List.mem_append_right _ (List.mem_of_getElem? (i := 317) (by decide +kernel))) (by decide +kernel)
theorem ca_E1 : Cond.castable (jE 1) (jE 1) ∈ tables_1 := List.mem_of_getElem? (i := 330) (by decide +kernel)
theorem ml_L_15 : Cond.methodLink RL 15 yX10_setTag ∈ BW := BW_of (List.mem_append_right _ (List.mem_of_getElem? (i := 451) (by decide +kernel))) (by decide +kernel)
theorem im_X10_setTag : Cond.instanceMethod yX10_setTag ∈ BW := BW_of (List.mem_append_right _ (List.mem_of_getElem? (i := 452) (by decide +kernel))) (by decide +kernel)
theorem iv_X10_setTag : Cond.instanceMethod yX10_setTag ∈ BW ∧ Cond.selects (yX10_setTag).cls yX10_setTag yX10_setTag ∈ BW := ⟨im_X10_setTag, BW_of (List.mem_append_right _ (List.mem_of_getElem? (i := 453) (by decide +kernel))) (by decide +kernel)⟩
theorem ml_L_19 : Cond.methodLink RL 19 yX10_type ∈ BW := BW_of (List.mem_append_right _ (List.mem_of_getElem? (i := 461) (by decide +kernel))) (by decide +kernel)
theorem im_X10_type : Cond.instanceMethod yX10_type ∈ BW := BW_of (List.mem_append_right _ (List.mem_of_getElem? (i := 462) (by decide +kernel))) (by decide +kernel)
theorem iv_X10_type : Cond.instanceMethod yX10_type ∈ BW ∧ Cond.selects (yX10_type).cls yX10_type yX10_type ∈ BW := ⟨im_X10_type, BW_of (List.mem_append_right _ (List.mem_of_getElem? (i := 463) (by decide +kernel))) (by decide +kernel)⟩
theorem cl_L_23 : Cond.classLink RL 23 (jE 2) ∈ BW := BW_of (List.mem_append_right _ (List.mem_of_getElem? (i := 460) (by decide +kernel))) (by decide +kernel)
theorem ca_E2 : Cond.castable (jE 2) (jE 2) ∈ tables_1 := List.mem_of_getElem? (i := 470) (by decide +kernel)
theorem ml_L_25 : Cond.methodLink RL 25 yX10_erase ∈ BW := BW_of (List.mem_append_right _ (List.mem_of_getElem? (i := 491) (by decide +kernel))) (by decide +kernel)
theorem im_X10_erase : Cond.instanceMethod yX10_erase ∈ BW := BW_of (List.mem_append_right _ (List.mem_of_getElem? (i := 492) (by decide +kernel))) (by decide +kernel)
theorem iv_X10_erase : Cond.instanceMethod yX10_erase ∈ BW ∧ Cond.selects (yX10_erase).cls yX10_erase yX10_erase ∈ BW := ⟨im_X10_erase, BW_of (List.mem_append_right _ (List.mem_of_getElem? (i := 493) (by decide +kernel))) (by decide +kernel)⟩
theorem ml_L_28 : Cond.methodLink RL 28 yX10_sign ∈ BW := BW_of (List.mem_append_right _ (List.mem_of_getElem? (i := 503) (by decide +kernel))) (by decide +kernel)
theorem im_X10_sign : Cond.instanceMethod yX10_sign ∈ BW := BW_of (List.mem_append_right _ (List.mem_of_getElem? (i := 504) (by decide +kernel))) (by decide +kernel)
theorem iv_X10_sign : Cond.instanceMethod yX10_sign ∈ BW ∧ Cond.selects (yX10_sign).cls yX10_sign yX10_sign ∈ BW := ⟨im_X10_sign, BW_of (List.mem_append_right _ (List.mem_of_getElem? (i := 505) (by decide +kernel))) (by decide +kernel)⟩
theorem cl_L_31 : Cond.classLink RL 31 (jE 3) ∈ BW := BW_of (List.mem_append_right _ (List.mem_of_getElem? (i := 502) (by decide +kernel))) (by decide +kernel)
theorem ca_E3 : Cond.castable (jE 3) (jE 3) ∈ tables_1 := List.mem_of_getElem? (i := 509) (by decide +kernel)
theorem ml_L_33 : Cond.methodLink RL 33 yX10_fault ∈ BW := BW_of (List.mem_append_right _ (List.mem_of_getElem? (i := 527) (by decide +kernel))) (by decide +kernel)
theorem im_X10_fault : Cond.instanceMethod yX10_fault ∈ BW := BW_of (List.mem_append_right _ (List.mem_of_getElem? (i := 528) (by decide +kernel))) (by decide +kernel)
theorem iv_X10_fault : Cond.instanceMethod yX10_fault ∈ BW ∧ Cond.selects (yX10_fault).cls yX10_fault yX10_fault ∈ BW := ⟨im_X10_fault, BW_of (List.mem_append_right _ (List.mem_of_getElem? (i := 529) (by decide +kernel))) (by decide +kernel)⟩
theorem ml_L_37 : Cond.methodLink RL 37 yX10_set ∈ BW := BW_of (List.mem_append_right _ (List.mem_of_getElem? (i := 555) (by decide +kernel))) (by decide +kernel)
theorem im_X10_set : Cond.instanceMethod yX10_set ∈ BW := BW_of (List.mem_append_right _ (List.mem_of_getElem? (i := 556) (by decide +kernel))) (by decide +kernel)
theorem iv_X10_set : Cond.instanceMethod yX10_set ∈ BW ∧ Cond.selects (yX10_set).cls yX10_set yX10_set ∈ BW := ⟨im_X10_set, BW_of (List.mem_append_right _ (List.mem_of_getElem? (i := 557) (by decide +kernel))) (by decide +kernel)⟩
theorem ml_L_40 : Cond.methodLink RL 40 yX10_wouldMove ∈ BW := BW_of (List.mem_append_right _ (List.mem_of_getElem? (i := 602) (by decide +kernel))) (by decide +kernel)
theorem im_X10_wouldMove : Cond.instanceMethod yX10_wouldMove ∈ BW := BW_of (List.mem_append_right _ (List.mem_of_getElem? (i := 603) (by decide +kernel))) (by decide +kernel)
theorem iv_X10_wouldMove : Cond.instanceMethod yX10_wouldMove ∈ BW ∧ Cond.selects (yX10_wouldMove).cls yX10_wouldMove yX10_wouldMove ∈ BW := ⟨im_X10_wouldMove, BW_of (List.mem_append_right _ (List.mem_of_getElem? (i := 604) (by decide +kernel))) (by decide +kernel)⟩
theorem ml_L_43 : Cond.methodLink RL 43 yX10_isIn ∈ BW := BW_of (List.mem_append_right _ (List.mem_of_getElem? (i := 648) (by decide +kernel))) (by decide +kernel)
theorem im_X10_isIn : Cond.instanceMethod yX10_isIn ∈ BW := BW_of (List.mem_append_right _ (List.mem_of_getElem? (i := 649) (by decide +kernel))) (by decide +kernel)
theorem iv_X10_isIn : Cond.instanceMethod yX10_isIn ∈ BW ∧ Cond.selects (yX10_isIn).cls yX10_isIn yX10_isIn ∈ BW := ⟨im_X10_isIn, BW_of (List.mem_append_right _ (List.mem_of_getElem? (i := 650) (by decide +kernel))) (by decide +kernel)⟩
theorem ml_L_47 : Cond.methodLink RL 47 yX10_addRule ∈ BW := BW_of (List.mem_append_right _ (List.mem_of_getElem? (i := 655) (by decide +kernel))) (by decide +kernel)
theorem im_X10_addRule : Cond.instanceMethod yX10_addRule ∈ BW := BW_of (List.mem_append_right _ (List.mem_of_getElem? (i := 656) (by decide +kernel))) (by decide +kernel)
theorem iv_X10_addRule : Cond.instanceMethod yX10_addRule ∈ BW ∧ Cond.selects (yX10_addRule).cls yX10_addRule yX10_addRule ∈ BW := ⟨im_X10_addRule, BW_of (List.mem_append_right _ (List.mem_of_getElem? (i := 657) (by decide +kernel))) (by decide +kernel)⟩
theorem ml_L_51 : Cond.methodLink RL 51 yX10_removeRule ∈ BW := BW_of (List.mem_append_right _ (List.mem_of_getElem? (i := 671) (by decide +kernel))) (by decide +kernel)
theorem im_X10_removeRule : Cond.instanceMethod yX10_removeRule ∈ BW := BW_of (List.mem_append_right _ (List.mem_of_getElem? (i := 672) (by decide +kernel))) (by decide +kernel)
theorem iv_X10_removeRule : Cond.instanceMethod yX10_removeRule ∈ BW ∧ Cond.selects (yX10_removeRule).cls yX10_removeRule yX10_removeRule ∈ BW := ⟨im_X10_removeRule, BW_of (List.mem_append_right _ (List.mem_of_getElem? (i := 673) (by decide +kernel))) (by decide +kernel)⟩
theorem ml_L_54 : Cond.methodLink RL 54 yX10_rules ∈ BW := BW_of (List.mem_append_right _ (List.mem_of_getElem? (i := 683) (by decide +kernel))) (by decide +kernel)
theorem im_X10_rules : Cond.instanceMethod yX10_rules ∈ BW := BW_of (List.mem_append_right _ (List.mem_of_getElem? (i := 684) (by decide +kernel))) (by decide +kernel)
theorem iv_X10_rules : Cond.instanceMethod yX10_rules ∈ BW ∧ Cond.selects (yX10_rules).cls yX10_rules yX10_rules ∈ BW := ⟨im_X10_rules, BW_of (List.mem_append_right _ (List.mem_of_getElem? (i := 685) (by decide +kernel))) (by decide +kernel)⟩
theorem ml_L_57 : Cond.methodLink RL 57 yX10_setNeed ∈ BW := BW_of (List.mem_append_right _ (List.mem_of_getElem? (i := 690) (by decide +kernel))) (by decide +kernel)
theorem im_X10_setNeed : Cond.instanceMethod yX10_setNeed ∈ BW := BW_of (List.mem_append_right _ (List.mem_of_getElem? (i := 691) (by decide +kernel))) (by decide +kernel)
theorem iv_X10_setNeed : Cond.instanceMethod yX10_setNeed ∈ BW ∧ Cond.selects (yX10_setNeed).cls yX10_setNeed yX10_setNeed ∈ BW := ⟨im_X10_setNeed, BW_of (List.mem_append_right _ (List.mem_of_getElem? (i := 692) (by decide +kernel))) (by decide +kernel)⟩
theorem ml_L_60 : Cond.methodLink RL 60 yX10_view ∈ BW := BW_of (List.mem_append_right _ (List.mem_of_getElem? (i := 701) (by decide +kernel))) (by decide +kernel)
theorem im_X10_view : Cond.instanceMethod yX10_view ∈ BW := BW_of (List.mem_append_right _ (List.mem_of_getElem? (i := 702) (by decide +kernel))) (by decide +kernel)
theorem iv_X10_view : Cond.instanceMethod yX10_view ∈ BW ∧ Cond.selects (yX10_view).cls yX10_view yX10_view ∈ BW := ⟨im_X10_view, BW_of (List.mem_append_right _ (List.mem_of_getElem? (i := 703) (by decide +kernel))) (by decide +kernel)⟩
theorem ml_L_63 : Cond.methodLink RL 63 yX10_viewByLog ∈ BW := BW_of (List.mem_append_right _ (List.mem_of_getElem? (i := 712) (by decide +kernel))) (by decide +kernel)
theorem im_X10_viewByLog : Cond.instanceMethod yX10_viewByLog ∈ BW := BW_of (List.mem_append_right _ (List.mem_of_getElem? (i := 713) (by decide +kernel))) (by decide +kernel)
theorem iv_X10_viewByLog : Cond.instanceMethod yX10_viewByLog ∈ BW ∧ Cond.selects (yX10_viewByLog).cls yX10_viewByLog yX10_viewByLog ∈ BW := ⟨im_X10_viewByLog, BW_of (List.mem_append_right _ (List.mem_of_getElem? (i := 714) (by decide +kernel))) (by decide +kernel)⟩
theorem ml_L_66 : Cond.methodLink RL 66 yX10_ruleFor ∈ BW := BW_of (List.mem_append_right _ (List.mem_of_getElem? (i := 760) (by decide +kernel))) (by decide +kernel)
theorem im_X10_ruleFor : Cond.instanceMethod yX10_ruleFor ∈ BW := BW_of (List.mem_append_right _ (List.mem_of_getElem? (i := 761) (by decide +kernel))) (by decide +kernel)
theorem iv_X10_ruleFor : Cond.instanceMethod yX10_ruleFor ∈ BW ∧ Cond.selects (yX10_ruleFor).cls yX10_ruleFor yX10_ruleFor ∈ BW := ⟨im_X10_ruleFor, BW_of (List.mem_append_right _ (List.mem_of_getElem? (i := 762) (by decide +kernel))) (by decide +kernel)⟩
theorem ml_L_69 : Cond.methodLink RL 69 yX10_reach ∈ BW := BW_of (List.mem_append_right _ (List.mem_of_getElem? (i := 767) (by decide +kernel))) (by decide +kernel)
theorem im_X10_reach : Cond.instanceMethod yX10_reach ∈ BW := BW_of (List.mem_append_right _ (List.mem_of_getElem? (i := 768) (by decide +kernel))) (by decide +kernel)
theorem iv_X10_reach : Cond.instanceMethod yX10_reach ∈ BW ∧ Cond.selects (yX10_reach).cls yX10_reach yX10_reach ∈ BW := ⟨im_X10_reach, BW_of (List.mem_append_right _ (List.mem_of_getElem? (i := 769) (by decide +kernel))) (by decide +kernel)⟩
theorem ml_L_72 : Cond.methodLink RL 72 yX10_show ∈ BW := BW_of (List.mem_append_right _ (List.mem_of_getElem? (i := 777) (by decide +kernel))) (by decide +kernel)
theorem im_X10_show : Cond.instanceMethod yX10_show ∈ BW := BW_of (List.mem_append_right _ (List.mem_of_getElem? (i := 778) (by decide +kernel))) (by decide +kernel)
theorem iv_X10_show : Cond.instanceMethod yX10_show ∈ BW ∧ Cond.selects (yX10_show).cls yX10_show yX10_show ∈ BW := ⟨im_X10_show, BW_of (List.mem_append_right _ (List.mem_of_getElem? (i := 779) (by decide +kernel))) (by decide +kernel)⟩
theorem ml_L_75 : Cond.methodLink RL 75 yX10_setShares ∈ BW := BW_of (List.mem_append_right _ (List.mem_of_getElem? (i := 889) (by decide +kernel))) (by decide +kernel)
theorem im_X10_setShares : Cond.instanceMethod yX10_setShares ∈ BW := BW_of (List.mem_append_right _ (List.mem_of_getElem? (i := 890) (by decide +kernel))) (by decide +kernel)
theorem iv_X10_setShares : Cond.instanceMethod yX10_setShares ∈ BW ∧ Cond.selects (yX10_setShares).cls yX10_setShares yX10_setShares ∈ BW := ⟨im_X10_setShares, BW_of (List.mem_append_right _ (List.mem_of_getElem? (i := 891) (by decide +kernel))) (by decide +kernel)⟩
theorem ml_L_79 : Cond.methodLink RL 79 yX10_setSalt ∈ BW := BW_of (List.mem_append_right _ (List.mem_of_getElem? (i := 909) (by decide +kernel))) (by decide +kernel)
theorem im_X10_setSalt : Cond.instanceMethod yX10_setSalt ∈ BW := BW_of (List.mem_append_right _ (List.mem_of_getElem? (i := 910) (by decide +kernel))) (by decide +kernel)
theorem iv_X10_setSalt : Cond.instanceMethod yX10_setSalt ∈ BW ∧ Cond.selects (yX10_setSalt).cls yX10_setSalt yX10_setSalt ∈ BW := ⟨im_X10_setSalt, BW_of (List.mem_append_right _ (List.mem_of_getElem? (i := 911) (by decide +kernel))) (by decide +kernel)⟩
theorem ml_L_82 : Cond.methodLink RL 82 yX10_stop ∈ BW := BW_of (List.mem_append_right _ (List.mem_of_getElem? (i := 916) (by decide +kernel))) (by decide +kernel)
theorem im_X10_stop : Cond.instanceMethod yX10_stop ∈ BW := BW_of (List.mem_append_right _ (List.mem_of_getElem? (i := 917) (by decide +kernel))) (by decide +kernel)
theorem iv_X10_stop : Cond.instanceMethod yX10_stop ∈ BW ∧ Cond.selects (yX10_stop).cls yX10_stop yX10_stop ∈ BW := ⟨im_X10_stop, BW_of (List.mem_append_right _ (List.mem_of_getElem? (i := 918) (by decide +kernel))) (by decide +kernel)⟩
theorem ml_L_85 : Cond.methodLink RL 85 yX10_beginAnew ∈ BW := BW_of (List.mem_append_right _ (List.mem_of_getElem? (i := 927) (by decide +kernel))) (by decide +kernel)
theorem im_X10_beginAnew : Cond.instanceMethod yX10_beginAnew ∈ BW := BW_of (List.mem_append_right _ (List.mem_of_getElem? (i := 928) (by decide +kernel))) (by decide +kernel)
theorem iv_X10_beginAnew : Cond.instanceMethod yX10_beginAnew ∈ BW ∧ Cond.selects (yX10_beginAnew).cls yX10_beginAnew yX10_beginAnew ∈ BW := ⟨im_X10_beginAnew, BW_of (List.mem_append_right _ (List.mem_of_getElem? (i := 929) (by decide +kernel))) (by decide +kernel)⟩
theorem ml_L_88 : Cond.methodLink RL 88 yX10_arm ∈ BW := BW_of (List.mem_append_right _ (List.mem_of_getElem? (i := 934) (by decide +kernel))) (by decide +kernel)
theorem im_X10_arm : Cond.instanceMethod yX10_arm ∈ BW := BW_of (List.mem_append_right _ (List.mem_of_getElem? (i := 935) (by decide +kernel))) (by decide +kernel)
theorem iv_X10_arm : Cond.instanceMethod yX10_arm ∈ BW ∧ Cond.selects (yX10_arm).cls yX10_arm yX10_arm ∈ BW := ⟨im_X10_arm, BW_of (List.mem_append_right _ (List.mem_of_getElem? (i := 936) (by decide +kernel))) (by decide +kernel)⟩
theorem ml_L_91 : Cond.methodLink RL 91 yX10_kept ∈ BW := BW_of (List.mem_append_right _ (List.mem_of_getElem? (i := 941) (by decide +kernel))) (by decide +kernel)
theorem im_X10_kept : Cond.instanceMethod yX10_kept ∈ BW := BW_of (List.mem_append_right _ (List.mem_of_getElem? (i := 942) (by decide +kernel))) (by decide +kernel)
theorem iv_X10_kept : Cond.instanceMethod yX10_kept ∈ BW ∧ Cond.selects (yX10_kept).cls yX10_kept yX10_kept ∈ BW := ⟨im_X10_kept, BW_of (List.mem_append_right _ (List.mem_of_getElem? (i := 943) (by decide +kernel))) (by decide +kernel)⟩
theorem ml_L_94 : Cond.methodLink RL 94 yX10_hold ∈ BW := BW_of (List.mem_append_right _ (List.mem_of_getElem? (i := 948) (by decide +kernel))) (by decide +kernel)
theorem im_X10_hold : Cond.instanceMethod yX10_hold ∈ BW := BW_of (List.mem_append_right _ (List.mem_of_getElem? (i := 949) (by decide +kernel))) (by decide +kernel)
theorem iv_X10_hold : Cond.instanceMethod yX10_hold ∈ BW ∧ Cond.selects (yX10_hold).cls yX10_hold yX10_hold ∈ BW := ⟨im_X10_hold, BW_of (List.mem_append_right _ (List.mem_of_getElem? (i := 950) (by decide +kernel))) (by decide +kernel)⟩
theorem ml_L_97 : Cond.methodLink RL 97 yX10_release ∈ BW := BW_of (List.mem_append_right _ (List.mem_of_getElem? (i := 956) (by decide +kernel))) (by decide +kernel)
theorem im_X10_release : Cond.instanceMethod yX10_release ∈ BW := BW_of (List.mem_append_right _ (List.mem_of_getElem? (i := 957) (by decide +kernel))) (by decide +kernel)
theorem iv_X10_release : Cond.instanceMethod yX10_release ∈ BW ∧ Cond.selects (yX10_release).cls yX10_release yX10_release ∈ BW := ⟨im_X10_release, BW_of (List.mem_append_right _ (List.mem_of_getElem? (i := 958) (by decide +kernel))) (by decide +kernel)⟩
theorem ml_L_100 : Cond.methodLink RL 100 yX10_holdTrial ∈ BW := BW_of (List.mem_append_right _ (List.mem_of_getElem? (i := 964) (by decide +kernel))) (by decide +kernel)
theorem im_X10_holdTrial : Cond.instanceMethod yX10_holdTrial ∈ BW := BW_of (List.mem_append_right _ (List.mem_of_getElem? (i := 965) (by decide +kernel))) (by decide +kernel)
theorem iv_X10_holdTrial : Cond.instanceMethod yX10_holdTrial ∈ BW ∧ Cond.selects (yX10_holdTrial).cls yX10_holdTrial yX10_holdTrial ∈ BW := ⟨im_X10_holdTrial, BW_of (List.mem_append_right _ (List.mem_of_getElem? (i := 966) (by decide +kernel))) (by decide +kernel)⟩
theorem ml_L_103 : Cond.methodLink RL 103 yX10_releaseTrial ∈ BW := BW_of (List.mem_append_right _ (List.mem_of_getElem? (i := 976) (by decide +kernel))) (by decide +kernel)
theorem im_X10_releaseTrial : Cond.instanceMethod yX10_releaseTrial ∈ BW := BW_of (List.mem_append_right _ (List.mem_of_getElem? (i := 977) (by decide +kernel))) (by decide +kernel)
theorem iv_X10_releaseTrial : Cond.instanceMethod yX10_releaseTrial ∈ BW ∧ Cond.selects (yX10_releaseTrial).cls yX10_releaseTrial yX10_releaseTrial ∈ BW := ⟨im_X10_releaseTrial, BW_of (List.mem_append_right _ (List.mem_of_getElem? (i := 978) (by decide +kernel))) (by decide +kernel)⟩
theorem ml_L_106 : Cond.methodLink RL 106 yX10_isHeld ∈ BW := BW_of (List.mem_append_right _ (List.mem_of_getElem? (i := 988) (by decide +kernel))) (by decide +kernel)
theorem im_X10_isHeld : Cond.instanceMethod yX10_isHeld ∈ BW := BW_of (List.mem_append_right _ (List.mem_of_getElem? (i := 989) (by decide +kernel))) (by decide +kernel)
theorem iv_X10_isHeld : Cond.instanceMethod yX10_isHeld ∈ BW ∧ Cond.selects (yX10_isHeld).cls yX10_isHeld yX10_isHeld ∈ BW := ⟨im_X10_isHeld, BW_of (List.mem_append_right _ (List.mem_of_getElem? (i := 990) (by decide +kernel))) (by decide +kernel)⟩
theorem ml_L_109 : Cond.methodLink RL 109 yX10_shownLast ∈ BW := BW_of (List.mem_append_right _ (List.mem_of_getElem? (i := 995) (by decide +kernel))) (by decide +kernel)
theorem im_X10_shownLast : Cond.instanceMethod yX10_shownLast ∈ BW := BW_of (List.mem_append_right _ (List.mem_of_getElem? (i := 996) (by decide +kernel))) (by decide +kernel)
theorem iv_X10_shownLast : Cond.instanceMethod yX10_shownLast ∈ BW ∧ Cond.selects (yX10_shownLast).cls yX10_shownLast yX10_shownLast ∈ BW := ⟨im_X10_shownLast, BW_of (List.mem_append_right _ (List.mem_of_getElem? (i := 997) (by decide +kernel))) (by decide +kernel)⟩
end WRD
