section WRD
theorem ml_L_116 : Cond.methodLink RL 116 yL_setAttribute ∈ BW := BW_of (List.mem_append_right _ (List.mem_of_getElem? (i := 314) (by decide +kernel))) (by decide +kernel)
theorem ml_L_121 : Cond.methodLink RL 121 yX11_setAttribute ∈ BW := BW_of (List.mem_append_right _ (List.mem_of_getElem? (i := 1104) (by decide +kernel))) (by decide +kernel)
theorem in_L : Cond.initialized RL ∈ BW := BW_of (List.mem_append_right _ (List.mem_of_getElem? (i := 0) (by decide +kernel))) (by decide +kernel)
theorem mh_L_setAttribute : jMeH yL_setAttribute cL_setAttribute 6 (some .int) hh_L_setAttribute 5 := ⟨BW_of (List.mem_append_right _ (List.mem_of_getElem? (i := 316) (by decide +kernel))) (by decide +kernel), in_L, by decide +kernel⟩
theorem st_L_setAttribute : Cond.static yL_setAttribute ∈ BW := BW_of (List.mem_append_right _ (List.mem_of_getElem? (i := 315) (by decide +kernel))) (by decide +kernel)
theorem im_X11_setAttribute : Cond.instanceMethod yX11_setAttribute ∈ BW := BW_of (List.mem_append_right _ (List.mem_of_getElem? (i := 1105) (by decide +kernel))) (by decide +kernel)
theorem iv_X11_setAttribute : Cond.instanceMethod yX11_setAttribute ∈ BW ∧ Cond.selects (yX11_setAttribute).cls yX11_setAttribute yX11_setAttribute ∈ BW := ⟨im_X11_setAttribute, BW_of (List.mem_append_right _ (List.mem_of_getElem? (i := 1106) (by decide +kernel))) (by decide +kernel)⟩
theorem ml_L_122 : Cond.methodLink RL 122 yX11_thrown ∈ BW := BW_of (List.mem_append_right _ (List.mem_of_getElem? (i := 1100) (by decide +kernel))) (by decide +kernel)
theorem im_X11_thrown : Cond.instanceMethod yX11_thrown ∈ BW := BW_of (List.mem_append_right _ (List.mem_of_getElem? (i := 1101) (by decide +kernel))) (by decide +kernel)
theorem iv_X11_thrown : Cond.instanceMethod yX11_thrown ∈ BW ∧ Cond.selects (yX11_thrown).cls yX11_thrown yX11_thrown ∈ BW := ⟨im_X11_thrown, BW_of (List.mem_append_right _ (List.mem_of_getElem? (i := 1102) (by decide +kernel))) (by decide +kernel)⟩
theorem ml_L_126 : Cond.methodLink RL 126 yL_setTag ∈ BW := BW_of (List.mem_append_right _ (List.mem_of_getElem? (i := 448) (by decide +kernel))) (by decide +kernel)
theorem ml_L_129 : Cond.methodLink RL 129 yX11_setTag ∈ BW := BW_of (List.mem_append_right _ (List.mem_of_getElem? (i := 1118) (by decide +kernel))) (by decide +kernel)
theorem mh_L_setTag : jMeH yL_setTag cL_setTag 6 (some .int) hh_L_setTag 5 := ⟨BW_of (List.mem_append_right _ (List.mem_of_getElem? (i := 450) (by decide +kernel))) (by decide +kernel), in_L, by decide +kernel⟩
theorem st_L_setTag : Cond.static yL_setTag ∈ BW := BW_of (List.mem_append_right _ (List.mem_of_getElem? (i := 449) (by decide +kernel))) (by decide +kernel)
theorem im_X11_setTag : Cond.instanceMethod yX11_setTag ∈ BW := BW_of (List.mem_append_right _ (List.mem_of_getElem? (i := 1119) (by decide +kernel))) (by decide +kernel)
theorem iv_X11_setTag : Cond.instanceMethod yX11_setTag ∈ BW ∧ Cond.selects (yX11_setTag).cls yX11_setTag yX11_setTag ∈ BW := ⟨im_X11_setTag, BW_of (List.mem_append_right _ (List.mem_of_getElem? (i := 1120) (by decide +kernel))) (by decide +kernel)⟩
theorem ml_L_130 : Cond.methodLink RL 130 yL_type ∈ BW := BW_of (List.mem_append_right _ (List.mem_of_getElem? (i := 457) (by decide +kernel))) (by decide +kernel)
theorem ml_L_133 : Cond.methodLink RL 133 yX11_type ∈ BW := BW_of (List.mem_append_right _ (List.mem_of_getElem? (i := 1122) (by decide +kernel))) (by decide +kernel)
theorem mh_L_type : jMeH yL_type cL_type 5 (some .int) hh_L_type 4 := ⟨BW_of (List.mem_append_right _ (List.mem_of_getElem? (i := 459) (by decide +kernel))) (by decide +kernel), in_L, by decide +kernel⟩
theorem st_L_type : Cond.static yL_type ∈ BW := BW_of (List.mem_append_right _ (List.mem_of_getElem? (i := 458) (by decide +kernel))) (by decide +kernel)
theorem im_X11_type : Cond.instanceMethod yX11_type ∈ BW := BW_of (List.mem_append_right _ (List.mem_of_getElem? (i := 1123) (by decide +kernel))) (by decide +kernel)
theorem iv_X11_type : Cond.instanceMethod yX11_type ∈ BW ∧ Cond.selects (yX11_type).cls yX11_type yX11_type ∈ BW := ⟨im_X11_type, BW_of (List.mem_append_right _ (List.mem_of_getElem? (i := 1124) (by decide +kernel))) (by decide +kernel)⟩
theorem ml_L_134 : Cond.methodLink RL 134 yL_erase ∈ BW := BW_of (List.mem_append_right _ (List.mem_of_getElem? (i := 488) (by decide +kernel))) (by decide +kernel)
theorem ml_L_136 : Cond.methodLink RL 136 yX11_erase ∈ BW := BW_of (List.mem_append_right _ (List.mem_of_getElem? (i := 1129) (by decide +kernel))) (by decide +kernel)
theorem mh_L_erase : jMeH yL_erase cL_erase 5 (some .int) hh_L_erase 4 := ⟨BW_of (List.mem_append_right _ (List.mem_of_getElem? (i := 490) (by decide +kernel))) (by decide +kernel), in_L, by decide +kernel⟩
theorem st_L_erase : Cond.static yL_erase ∈ BW := BW_of (List.mem_append_right _ (List.mem_of_getElem? (i := 489) (by decide +kernel))) (by decide +kernel)
theorem im_X11_erase : Cond.instanceMethod yX11_erase ∈ BW := BW_of (List.mem_append_right _ (List.mem_of_getElem? (i := 1130) (by decide +kernel))) (by decide +kernel)
theorem iv_X11_erase : Cond.instanceMethod yX11_erase ∈ BW ∧ Cond.selects (yX11_erase).cls yX11_erase yX11_erase ∈ BW := ⟨im_X11_erase, BW_of (List.mem_append_right _ (List.mem_of_getElem? (i := 1131) (by decide +kernel))) (by decide +kernel)⟩
theorem ml_L_137 : Cond.methodLink RL 137 yL_sign ∈ BW := BW_of (List.mem_append_right _ (List.mem_of_getElem? (i := 499) (by decide +kernel))) (by decide +kernel)
theorem ml_L_139 : Cond.methodLink RL 139 yX11_sign ∈ BW := BW_of (List.mem_append_right _ (List.mem_of_getElem? (i := 1133) (by decide +kernel))) (by decide +kernel)
theorem mh_L_sign : jMeH yL_sign cL_sign 5 (some .int) hh_L_sign 4 := ⟨BW_of (List.mem_append_right _ (List.mem_of_getElem? (i := 501) (by decide +kernel))) (by decide +kernel), in_L, by decide +kernel⟩
theorem st_L_sign : Cond.static yL_sign ∈ BW := BW_of (List.mem_append_right _ (List.mem_of_getElem? (i := 500) (by decide +kernel))) (by decide +kernel)
theorem im_X11_sign : Cond.instanceMethod yX11_sign ∈ BW := BW_of (List.mem_append_right _ (List.mem_of_getElem? (i := 1134) (by decide +kernel))) (by decide +kernel)
theorem iv_X11_sign : Cond.instanceMethod yX11_sign ∈ BW ∧ Cond.selects (yX11_sign).cls yX11_sign yX11_sign ∈ BW := ⟨im_X11_sign, BW_of (List.mem_append_right _ (List.mem_of_getElem? (i := 1135) (by decide +kernel))) (by decide +kernel)⟩
theorem ml_L_140 : Cond.methodLink RL 140 yL_fault ∈ BW := BW_of (List.mem_append_right _ (List.mem_of_getElem? (i := 524) (by decide +kernel))) (by decide +kernel)
theorem ml_L_143 : Cond.methodLink RL 143 yX11_fault ∈ BW := BW_of (List.mem_append_right _ (List.mem_of_getElem? (i := 1137) (by decide +kernel))) (by decide +kernel)
theorem mh_L_fault : jMeH yL_fault cL_fault 4 (some .int) hh_L_fault 3 := ⟨BW_of (List.mem_append_right _ (List.mem_of_getElem? (i := 526) (by decide +kernel))) (by decide +kernel), in_L, by decide +kernel⟩
theorem st_L_fault : Cond.static yL_fault ∈ BW := BW_of (List.mem_append_right _ (List.mem_of_getElem? (i := 525) (by decide +kernel))) (by decide +kernel)
theorem im_X11_fault : Cond.instanceMethod yX11_fault ∈ BW := BW_of (List.mem_append_right _ (List.mem_of_getElem? (i := 1138) (by decide +kernel))) (by decide +kernel)
theorem iv_X11_fault : Cond.instanceMethod yX11_fault ∈ BW ∧ Cond.selects (yX11_fault).cls yX11_fault yX11_fault ∈ BW := ⟨im_X11_fault, BW_of (List.mem_append_right _ (List.mem_of_getElem? (i := 1139) (by decide +kernel))) (by decide +kernel)⟩
theorem ml_L_144 : Cond.methodLink RL 144 yL_set ∈ BW := BW_of (List.mem_append_right _ (List.mem_of_getElem? (i := 552) (by decide +kernel))) (by decide +kernel)
theorem ml_L_146 : Cond.methodLink RL 146 yX11_set ∈ BW := BW_of (List.mem_append_right _ (List.mem_of_getElem? (i := 1151) (by decide +kernel))) (by decide +kernel)
theorem mh_L_set : jMeH yL_set cL_set 4 (some .int) hh_L_set 3 := ⟨BW_of (List.mem_append_right _ (List.mem_of_getElem? (i := 554) (by decide +kernel))) (by decide +kernel), in_L, by decide +kernel⟩
theorem st_L_set : Cond.static yL_set ∈ BW := BW_of (List.mem_append_right _ (List.mem_of_getElem? (i := 553) (by decide +kernel))) (by decide +kernel)
theorem im_X11_set : Cond.instanceMethod yX11_set ∈ BW := BW_of (List.mem_append_right _ (List.mem_of_getElem? (i := 1152) (by decide +kernel))) (by decide +kernel)
theorem iv_X11_set : Cond.instanceMethod yX11_set ∈ BW ∧ Cond.selects (yX11_set).cls yX11_set yX11_set ∈ BW := ⟨im_X11_set, BW_of (List.mem_append_right _ (List.mem_of_getElem? (i := 1153) (by decide +kernel))) (by decide +kernel)⟩
theorem ml_L_147 : Cond.methodLink RL 147 yL_wouldMove ∈ BW := BW_of (List.mem_append_right _ (List.mem_of_getElem? (i := 599) (by decide +kernel))) (by decide +kernel)
theorem ml_L_149 : Cond.methodLink RL 149 yX11_wouldMove ∈ BW := BW_of (List.mem_append_right _ (List.mem_of_getElem? (i := 1197) (by decide +kernel))) (by decide +kernel)
theorem mh_L_wouldMove : jMeH yL_wouldMove cL_wouldMove 4 (some .int) hh_L_wouldMove 3 := ⟨BW_of (List.mem_append_right _ (List.mem_of_getElem? (i := 601) (by decide +kernel))) (by decide +kernel), in_L, by decide +kernel⟩
theorem st_L_wouldMove : Cond.static yL_wouldMove ∈ BW := BW_of (List.mem_append_right _ (List.mem_of_getElem? (i := 600) (by decide +kernel))) (by decide +kernel)
theorem im_X11_wouldMove : Cond.instanceMethod yX11_wouldMove ∈ BW := BW_of (List.mem_append_right _ (List.mem_of_getElem? (i := 1198) (by decide +kernel))) (by decide +kernel)
theorem iv_X11_wouldMove : Cond.instanceMethod yX11_wouldMove ∈ BW ∧ Cond.selects (yX11_wouldMove).cls yX11_wouldMove yX11_wouldMove ∈ BW := ⟨im_X11_wouldMove, BW_of (List.mem_append_right _ (List.mem_of_getElem? (i := 1199) (by decide +kernel))) (by decide +kernel)⟩
theorem ml_L_150 : Cond.methodLink RL 150 yL_isIn ∈ BW := BW_of (List.mem_append_right _ (List.mem_of_getElem? (i := 645) (by decide +kernel))) (by decide +kernel)
theorem ml_L_152 : Cond.methodLink RL 152 yX11_isIn ∈ BW := BW_of (List.mem_append_right _ (List.mem_of_getElem? (i := 1223) (by decide +kernel))) (by decide +kernel)
theorem mh_L_isIn : jMeH yL_isIn cL_isIn 5 (some .int) hh_L_isIn 4 := ⟨BW_of (List.mem_append_right _ (List.mem_of_getElem? (i := 647) (by decide +kernel))) (by decide +kernel), in_L, by decide +kernel⟩
theorem st_L_isIn : Cond.static yL_isIn ∈ BW := BW_of (List.mem_append_right _ (List.mem_of_getElem? (i := 646) (by decide +kernel))) (by decide +kernel)
theorem im_X11_isIn : Cond.instanceMethod yX11_isIn ∈ BW := BW_of (List.mem_append_right _ (List.mem_of_getElem? (i := 1224) (by decide +kernel))) (by decide +kernel)
theorem iv_X11_isIn : Cond.instanceMethod yX11_isIn ∈ BW ∧ Cond.selects (yX11_isIn).cls yX11_isIn yX11_isIn ∈ BW := ⟨im_X11_isIn, BW_of (List.mem_append_right _ (List.mem_of_getElem? (i := 1225) (by decide +kernel))) (by decide +kernel)⟩
theorem ml_L_153 : Cond.methodLink RL 153 yL_addRule ∈ BW := BW_of (List.mem_append_right _ (List.mem_of_getElem? (i := 652) (by decide +kernel))) (by decide +kernel)
theorem ml_L_156 : Cond.methodLink RL 156 yX11_addRule ∈ BW := BW_of (List.mem_append_right _ (List.mem_of_getElem? (i := 1227) (by decide +kernel))) (by decide +kernel)
theorem mh_L_addRule : jMeH yL_addRule cL_addRule 7 (some .int) hh_L_addRule 6 := ⟨BW_of (List.mem_append_right _ (List.mem_of_getElem? (i := 654) (by decide +kernel))) (by decide +kernel), in_L, by decide +kernel⟩
theorem st_L_addRule : Cond.static yL_addRule ∈ BW := BW_of (List.mem_append_right _ (List.mem_of_getElem? (i := 653) (by decide +kernel))) (by decide +kernel)
theorem im_X11_addRule : Cond.instanceMethod yX11_addRule ∈ BW := BW_of (List.mem_append_right _ (List.mem_of_getElem? (i := 1228) (by decide +kernel))) (by decide +kernel)
theorem iv_X11_addRule : Cond.instanceMethod yX11_addRule ∈ BW ∧ Cond.selects (yX11_addRule).cls yX11_addRule yX11_addRule ∈ BW := ⟨im_X11_addRule, BW_of (List.mem_append_right _ (List.mem_of_getElem? (i := 1229) (by decide +kernel))) (by decide +kernel)⟩
theorem ml_L_157 : Cond.methodLink RL 157 yL_removeRule ∈ BW := BW_of (List.mem_append_right _ (List.mem_of_getElem? (i := 668) (by decide +kernel))) (by decide +kernel)
theorem ml_L_159 : Cond.methodLink RL 159 yX11_removeRule ∈ BW := BW_of (List.mem_append_right _ (List.mem_of_getElem? (i := 1234) (by decide +kernel))) (by decide +kernel)
theorem mh_L_removeRule : jMeH yL_removeRule cL_removeRule 5 (some .int) hh_L_removeRule 4 := ⟨BW_of (List.mem_append_right _ (List.mem_of_getElem? (i := 670) (by decide +kernel))) (by decide +kernel), in_L, by decide +kernel⟩
theorem st_L_removeRule : Cond.static yL_removeRule ∈ BW := BW_of (List.mem_append_right _ (List.mem_of_getElem? (i := 669) (by decide +kernel))) (by decide +kernel)
theorem im_X11_removeRule : Cond.instanceMethod yX11_removeRule ∈ BW := BW_of (List.mem_append_right _ (List.mem_of_getElem? (i := 1235) (by decide +kernel))) (by decide +kernel)
theorem iv_X11_removeRule : Cond.instanceMethod yX11_removeRule ∈ BW ∧ Cond.selects (yX11_removeRule).cls yX11_removeRule yX11_removeRule ∈ BW := ⟨im_X11_removeRule, BW_of (List.mem_append_right _ (List.mem_of_getElem? (i := 1236) (by decide +kernel))) (by decide +kernel)⟩
theorem ml_L_160 : Cond.methodLink RL 160 yL_rules ∈ BW := BW_of (List.mem_append_right _ (List.mem_of_getElem? (i := 680) (by decide +kernel))) (by decide +kernel)
theorem ml_L_162 : Cond.methodLink RL 162 yX11_rules ∈ BW := BW_of (List.mem_append_right _ (List.mem_of_getElem? (i := 1238) (by decide +kernel))) (by decide +kernel)
theorem mh_L_rules : jMeH yL_rules cL_rules 4 (some .int) hh_L_rules 3 := ⟨BW_of (List.mem_append_right _ (List.mem_of_getElem? (i := 682) (by decide +kernel))) (by decide +kernel), in_L, by decide +kernel⟩
theorem st_L_rules : Cond.static yL_rules ∈ BW := BW_of (List.mem_append_right _ (List.mem_of_getElem? (i := 681) (by decide +kernel))) (by decide +kernel)
theorem im_X11_rules : Cond.instanceMethod yX11_rules ∈ BW := BW_of (List.mem_append_right _ (List.mem_of_getElem? (i := 1239) (by decide +kernel))) (by decide +kernel)
theorem iv_X11_rules : Cond.instanceMethod yX11_rules ∈ BW ∧ Cond.selects (yX11_rules).cls yX11_rules yX11_rules ∈ BW := ⟨im_X11_rules, BW_of (List.mem_append_right _ (List.mem_of_getElem? (i := 1240) (by decide +kernel))) (by decide +kernel)⟩
theorem ml_L_163 : Cond.methodLink RL 163 yL_setNeed ∈ BW := BW_of (List.mem_append_right _ (List.mem_of_getElem? (i := 687) (by decide +kernel))) (by decide +kernel)
theorem ml_L_165 : Cond.methodLink RL 165 yX11_setNeed ∈ BW := BW_of (List.mem_append_right _ (List.mem_of_getElem? (i := 1242) (by decide +kernel))) (by decide +kernel)
theorem mh_L_setNeed : jMeH yL_setNeed cL_setNeed 6 (some .int) hh_L_setNeed 5 := ⟨BW_of (List.mem_append_right _ (List.mem_of_getElem? (i := 689) (by decide +kernel))) (by decide +kernel), in_L, by decide +kernel⟩
theorem st_L_setNeed : Cond.static yL_setNeed ∈ BW := BW_of (List.mem_append_right _ (List.mem_of_getElem? (i := 688) (by decide +kernel))) (by decide +kernel)
theorem im_X11_setNeed : Cond.instanceMethod yX11_setNeed ∈ BW := BW_of (List.mem_append_right _ (List.mem_of_getElem? (i := 1243) (by decide +kernel))) (by decide +kernel)
theorem iv_X11_setNeed : Cond.instanceMethod yX11_setNeed ∈ BW ∧ Cond.selects (yX11_setNeed).cls yX11_setNeed yX11_setNeed ∈ BW := ⟨im_X11_setNeed, BW_of (List.mem_append_right _ (List.mem_of_getElem? (i := 1244) (by decide +kernel))) (by decide +kernel)⟩
theorem ml_L_166 : Cond.methodLink RL 166 yL_view ∈ BW := BW_of (List.mem_append_right _ (List.mem_of_getElem? (i := 698) (by decide +kernel))) (by decide +kernel)
theorem ml_L_168 : Cond.methodLink RL 168 yX11_view ∈ BW := BW_of (List.mem_append_right _ (List.mem_of_getElem? (i := 1250) (by decide +kernel))) (by decide +kernel)
theorem mh_L_view : jMeH yL_view cL_view 5 (some .int) hh_L_view 4 := ⟨BW_of (List.mem_append_right _ (List.mem_of_getElem? (i := 700) (by decide +kernel))) (by decide +kernel), in_L, by decide +kernel⟩
theorem st_L_view : Cond.static yL_view ∈ BW := BW_of (List.mem_append_right _ (List.mem_of_getElem? (i := 699) (by decide +kernel))) (by decide +kernel)
theorem im_X11_view : Cond.instanceMethod yX11_view ∈ BW := BW_of (List.mem_append_right _ (List.mem_of_getElem? (i := 1251) (by decide +kernel))) (by decide +kernel)
theorem iv_X11_view : Cond.instanceMethod yX11_view ∈ BW ∧ Cond.selects (yX11_view).cls yX11_view yX11_view ∈ BW := ⟨im_X11_view, BW_of (List.mem_append_right _ (List.mem_of_getElem? (i := 1252) (by decide +kernel))) (by decide +kernel)⟩
theorem ml_L_169 : Cond.methodLink RL 169 yL_viewByLog ∈ BW := BW_of (List.mem_append_right _ (List.mem_of_getElem? (i := 709) (by decide +kernel))) (by decide +kernel)
theorem ml_L_171 : Cond.methodLink RL 171 yX11_viewByLog ∈ BW := BW_of (List.mem_append_right _ (List.mem_of_getElem? (i := 1258) (by decide +kernel))) (by decide +kernel)
theorem mh_L_viewByLog : jMeH yL_viewByLog cL_viewByLog 5 (some .int) hh_L_viewByLog 4 := ⟨BW_of (List.mem_append_right _ (List.mem_of_getElem? (i := 711) (by decide +kernel))) (by decide +kernel), in_L, by decide +kernel⟩
theorem st_L_viewByLog : Cond.static yL_viewByLog ∈ BW := BW_of (List.mem_append_right _ (List.mem_of_getElem? (i := 710) (by decide +kernel))) (by decide +kernel)
theorem ml_L_172 : Cond.methodLink RL 172 yL_ruleFor ∈ BW := BW_of (List.mem_append_right _ (List.mem_of_getElem? (i := 757) (by decide +kernel))) (by decide +kernel)
theorem ml_L_174 : Cond.methodLink RL 174 yX11_ruleFor ∈ BW := BW_of (List.mem_append_right _ (List.mem_of_getElem? (i := 1259) (by decide +kernel))) (by decide +kernel)
theorem mh_L_ruleFor : jMeH yL_ruleFor cL_ruleFor 5 (some .int) hh_L_ruleFor 4 := ⟨BW_of (List.mem_append_right _ (List.mem_of_getElem? (i := 759) (by decide +kernel))) (by decide +kernel), in_L, by decide +kernel⟩
theorem st_L_ruleFor : Cond.static yL_ruleFor ∈ BW := BW_of (List.mem_append_right _ (List.mem_of_getElem? (i := 758) (by decide +kernel))) (by decide +kernel)
theorem im_X11_ruleFor : Cond.instanceMethod yX11_ruleFor ∈ BW := BW_of (List.mem_append_right _ (List.mem_of_getElem? (i := 1260) (by decide +kernel))) (by decide +kernel)
theorem iv_X11_ruleFor : Cond.instanceMethod yX11_ruleFor ∈ BW ∧ Cond.selects (yX11_ruleFor).cls yX11_ruleFor yX11_ruleFor ∈ BW := ⟨im_X11_ruleFor, BW_of (List.mem_append_right _ (List.mem_of_getElem? (i := 1261) (by decide +kernel))) (by decide +kernel)⟩
theorem ml_L_175 : Cond.methodLink RL 175 yL_reach ∈ BW := BW_of (List.mem_append_right _ (List.mem_of_getElem? (i := 764) (by decide +kernel))) (by decide +kernel)
theorem ml_L_177 : Cond.methodLink RL 177 yX11_reach ∈ BW := BW_of (List.mem_append_right _ (List.mem_of_getElem? (i := 1263) (by decide +kernel))) (by decide +kernel)
theorem mh_L_reach : jMeH yL_reach cL_reach 5 (some .int) hh_L_reach 4 := ⟨BW_of (List.mem_append_right _ (List.mem_of_getElem? (i := 766) (by decide +kernel))) (by decide +kernel), in_L, by decide +kernel⟩
theorem st_L_reach : Cond.static yL_reach ∈ BW := BW_of (List.mem_append_right _ (List.mem_of_getElem? (i := 765) (by decide +kernel))) (by decide +kernel)
theorem im_X11_reach : Cond.instanceMethod yX11_reach ∈ BW := BW_of (List.mem_append_right _ (List.mem_of_getElem? (i := 1264) (by decide +kernel))) (by decide +kernel)
theorem iv_X11_reach : Cond.instanceMethod yX11_reach ∈ BW ∧ Cond.selects (yX11_reach).cls yX11_reach yX11_reach ∈ BW := ⟨im_X11_reach, BW_of (List.mem_append_right _ (List.mem_of_getElem? (i := 1265) (by decide +kernel))) (by decide +kernel)⟩
theorem ml_L_178 : Cond.methodLink RL 178 yL_show ∈ BW := BW_of (List.mem_append_right _ (List.mem_of_getElem? (i := 774) (by decide +kernel))) (by decide +kernel)
theorem ml_L_180 : Cond.methodLink RL 180 yX11_show ∈ BW := BW_of (List.mem_append_right _ (List.mem_of_getElem? (i := 1270) (by decide +kernel))) (by decide +kernel)
theorem mh_L_show : jMeH yL_show cL_show 5 (some .int) hh_L_show 4 := ⟨BW_of (List.mem_append_right _ (List.mem_of_getElem? (i := 776) (by decide +kernel))) (by decide +kernel), in_L, by decide +kernel⟩
theorem st_L_show : Cond.static yL_show ∈ BW := BW_of (List.mem_append_right _ (List.mem_of_getElem? (i := 775) (by decide +kernel))) (by decide +kernel)
theorem im_X11_show : Cond.instanceMethod yX11_show ∈ BW := BW_of (List.mem_append_right _ (List.mem_of_getElem? (i := 1271) (by decide +kernel))) (by decide +kernel)
theorem iv_X11_show : Cond.instanceMethod yX11_show ∈ BW ∧ Cond.selects (yX11_show).cls yX11_show yX11_show ∈ BW := ⟨im_X11_show, BW_of (List.mem_append_right _ (List.mem_of_getElem? (i := 1272) (by decide +kernel))) (by decide +kernel)⟩
theorem ml_L_181 : Cond.methodLink RL 181 yL_setShares ∈ BW := BW_of (List.mem_append_right _ (List.mem_of_getElem? (i := 886) (by decide +kernel))) (by decide +kernel)
theorem ml_L_184 : Cond.methodLink RL 184 yX11_setShares ∈ BW := BW_of (List.mem_append_right _ (List.mem_of_getElem? (i := 1274) (by decide +kernel))) (by decide +kernel)
theorem mh_L_setShares : jMeH yL_setShares cL_setShares 8 (some .int) hh_L_setShares 7 := ⟨BW_of (List.mem_append_right _ (List.mem_of_getElem? (i := 888) (by decide +kernel))) (by decide +kernel), in_L, by decide +kernel⟩
theorem st_L_setShares : Cond.static yL_setShares ∈ BW := BW_of (List.mem_append_right _ (List.mem_of_getElem? (i := 887) (by decide +kernel))) (by decide +kernel)
theorem im_X11_setShares : Cond.instanceMethod yX11_setShares ∈ BW := BW_of (List.mem_append_right _ (List.mem_of_getElem? (i := 1275) (by decide +kernel))) (by decide +kernel)
theorem iv_X11_setShares : Cond.instanceMethod yX11_setShares ∈ BW ∧ Cond.selects (yX11_setShares).cls yX11_setShares yX11_setShares ∈ BW := ⟨im_X11_setShares, BW_of (List.mem_append_right _ (List.mem_of_getElem? (i := 1276) (by decide +kernel))) (by decide +kernel)⟩
theorem ml_L_185 : Cond.methodLink RL 185 yL_setSalt ∈ BW := BW_of (List.mem_append_right _ (List.mem_of_getElem? (i := 906) (by decide +kernel))) (by decide +kernel)
theorem ml_L_187 : Cond.methodLink RL 187 yX11_setSalt ∈ BW := BW_of (List.mem_append_right _ (List.mem_of_getElem? (i := 1281) (by decide +kernel))) (by decide +kernel)
theorem mh_L_setSalt : jMeH yL_setSalt cL_setSalt 5 (some .int) hh_L_setSalt 4 := ⟨BW_of (List.mem_append_right _ (List.mem_of_getElem? (i := 908) (by decide +kernel))) (by decide +kernel), in_L, by decide +kernel⟩
theorem st_L_setSalt : Cond.static yL_setSalt ∈ BW := BW_of (List.mem_append_right _ (List.mem_of_getElem? (i := 907) (by decide +kernel))) (by decide +kernel)
theorem im_X11_setSalt : Cond.instanceMethod yX11_setSalt ∈ BW := BW_of (List.mem_append_right _ (List.mem_of_getElem? (i := 1282) (by decide +kernel))) (by decide +kernel)
theorem iv_X11_setSalt : Cond.instanceMethod yX11_setSalt ∈ BW ∧ Cond.selects (yX11_setSalt).cls yX11_setSalt yX11_setSalt ∈ BW := ⟨im_X11_setSalt, BW_of (List.mem_append_right _ (List.mem_of_getElem? (i := 1283) (by decide +kernel))) (by decide +kernel)⟩
theorem ml_L_188 : Cond.methodLink RL 188 yL_stop ∈ BW := BW_of (List.mem_append_right _ (List.mem_of_getElem? (i := 913) (by decide +kernel))) (by decide +kernel)
theorem ml_L_190 : Cond.methodLink RL 190 yX11_stop ∈ BW := BW_of (List.mem_append_right _ (List.mem_of_getElem? (i := 1285) (by decide +kernel))) (by decide +kernel)
theorem mh_L_stop : jMeH yL_stop cL_stop 5 (some .int) hh_L_stop 4 := ⟨BW_of (List.mem_append_right _ (List.mem_of_getElem? (i := 915) (by decide +kernel))) (by decide +kernel), in_L, by decide +kernel⟩
theorem st_L_stop : Cond.static yL_stop ∈ BW := BW_of (List.mem_append_right _ (List.mem_of_getElem? (i := 914) (by decide +kernel))) (by decide +kernel)
theorem im_X11_stop : Cond.instanceMethod yX11_stop ∈ BW := BW_of (List.mem_append_right _ (List.mem_of_getElem? (i := 1286) (by decide +kernel))) (by decide +kernel)
theorem iv_X11_stop : Cond.instanceMethod yX11_stop ∈ BW ∧ Cond.selects (yX11_stop).cls yX11_stop yX11_stop ∈ BW := ⟨im_X11_stop, BW_of (List.mem_append_right _ (List.mem_of_getElem? (i := 1287) (by decide +kernel))) (by decide +kernel)⟩
theorem ml_L_191 : Cond.methodLink RL 191 yL_beginAnew ∈ BW := BW_of (List.mem_append_right _ (List.mem_of_getElem? (i := 924) (by decide +kernel))) (by decide +kernel)
theorem ml_L_193 : Cond.methodLink RL 193 yX11_beginAnew ∈ BW := BW_of (List.mem_append_right _ (List.mem_of_getElem? (i := 1289) (by decide +kernel))) (by decide +kernel)
theorem mh_L_beginAnew : jMeH yL_beginAnew cL_beginAnew 4 (some .int) hh_L_beginAnew 3 := ⟨BW_of (List.mem_append_right _ (List.mem_of_getElem? (i := 926) (by decide +kernel))) (by decide +kernel), in_L, by decide +kernel⟩
theorem st_L_beginAnew : Cond.static yL_beginAnew ∈ BW := BW_of (List.mem_append_right _ (List.mem_of_getElem? (i := 925) (by decide +kernel))) (by decide +kernel)
theorem im_X11_beginAnew : Cond.instanceMethod yX11_beginAnew ∈ BW := BW_of (List.mem_append_right _ (List.mem_of_getElem? (i := 1290) (by decide +kernel))) (by decide +kernel)
theorem iv_X11_beginAnew : Cond.instanceMethod yX11_beginAnew ∈ BW ∧ Cond.selects (yX11_beginAnew).cls yX11_beginAnew yX11_beginAnew ∈ BW := ⟨im_X11_beginAnew, BW_of (List.mem_append_right _ (List.mem_of_getElem? (i := 1291) (by decide +kernel))) (by decide +kernel)⟩
theorem ml_L_194 : Cond.methodLink RL 194 yL_arm ∈ BW := BW_of (List.mem_append_right _ (List.mem_of_getElem? (i := 931) (by decide +kernel))) (by decide +kernel)
theorem ml_L_196 : Cond.methodLink RL 196 yX11_arm ∈ BW := BW_of (List.mem_append_right _ (List.mem_of_getElem? (i := 1293) (by decide +kernel))) (by decide +kernel)
theorem mh_L_arm : jMeH yL_arm cL_arm 5 (some .int) hh_L_arm 4 := ⟨BW_of (List.mem_append_right _ (List.mem_of_getElem? (i := 933) (by decide +kernel))) (by decide +kernel), in_L, by decide +kernel⟩
theorem st_L_arm : Cond.static yL_arm ∈ BW := BW_of (List.mem_append_right _ (List.mem_of_getElem? (i := 932) (by decide +kernel))) (by decide +kernel)
theorem im_X11_arm : Cond.instanceMethod yX11_arm ∈ BW := BW_of (List.mem_append_right _ (List.mem_of_getElem? (i := 1294) (by decide +kernel))) (by decide +kernel)
theorem iv_X11_arm : Cond.instanceMethod yX11_arm ∈ BW ∧ Cond.selects (yX11_arm).cls yX11_arm yX11_arm ∈ BW := ⟨im_X11_arm, BW_of (List.mem_append_right _ (List.mem_of_getElem? (i := 1295) (by decide +kernel))) (by decide +kernel)⟩
theorem ml_L_197 : Cond.methodLink RL 197 yL_kept ∈ BW := BW_of (List.mem_append_right _ (List.mem_of_getElem? (i := 938) (by decide +kernel))) (by decide +kernel)
theorem ml_L_199 : Cond.methodLink RL 199 yX11_kept ∈ BW := BW_of (List.mem_append_right _ (List.mem_of_getElem? (i := 1297) (by decide +kernel))) (by decide +kernel)
theorem mh_L_kept : jMeH yL_kept cL_kept 5 (some .int) hh_L_kept 4 := ⟨BW_of (List.mem_append_right _ (List.mem_of_getElem? (i := 940) (by decide +kernel))) (by decide +kernel), in_L, by decide +kernel⟩
theorem st_L_kept : Cond.static yL_kept ∈ BW := BW_of (List.mem_append_right _ (List.mem_of_getElem? (i := 939) (by decide +kernel))) (by decide +kernel)
theorem im_X11_kept : Cond.instanceMethod yX11_kept ∈ BW := BW_of (List.mem_append_right _ (List.mem_of_getElem? (i := 1298) (by decide +kernel))) (by decide +kernel)
theorem iv_X11_kept : Cond.instanceMethod yX11_kept ∈ BW ∧ Cond.selects (yX11_kept).cls yX11_kept yX11_kept ∈ BW := ⟨im_X11_kept, BW_of (List.mem_append_right _ (List.mem_of_getElem? (i := 1299) (by decide +kernel))) (by decide +kernel)⟩
theorem ml_L_200 : Cond.methodLink RL 200 yL_hold ∈ BW := BW_of (List.mem_append_right _ (List.mem_of_getElem? (i := 945) (by decide +kernel))) (by decide +kernel)
theorem ml_L_202 : Cond.methodLink RL 202 yX11_hold ∈ BW := BW_of (List.mem_append_right _ (List.mem_of_getElem? (i := 1301) (by decide +kernel))) (by decide +kernel)
theorem mh_L_hold : jMeH yL_hold cL_hold 5 (some .int) hh_L_hold 4 := ⟨BW_of (List.mem_append_right _ (List.mem_of_getElem? (i := 947) (by decide +kernel))) (by decide +kernel), in_L, by decide +kernel⟩
theorem st_L_hold : Cond.static yL_hold ∈ BW := BW_of (List.mem_append_right _ (List.mem_of_getElem? (i := 946) (by decide +kernel))) (by decide +kernel)
theorem im_X11_hold : Cond.instanceMethod yX11_hold ∈ BW := BW_of (List.mem_append_right _ (List.mem_of_getElem? (i := 1302) (by decide +kernel))) (by decide +kernel)
theorem iv_X11_hold : Cond.instanceMethod yX11_hold ∈ BW ∧ Cond.selects (yX11_hold).cls yX11_hold yX11_hold ∈ BW := ⟨im_X11_hold, BW_of (List.mem_append_right _ (List.mem_of_getElem? (i := 1303) (by decide +kernel))) (by decide +kernel)⟩
theorem ml_L_203 : Cond.methodLink RL 203 yL_release ∈ BW := BW_of (List.mem_append_right _ (List.mem_of_getElem? (i := 953) (by decide +kernel))) (by decide +kernel)
theorem ml_L_205 : Cond.methodLink RL 205 yX11_release ∈ BW := BW_of (List.mem_append_right _ (List.mem_of_getElem? (i := 1305) (by decide +kernel))) (by decide +kernel)
theorem mh_L_release : jMeH yL_release cL_release 5 (some .int) hh_L_release 4 := ⟨BW_of (List.mem_append_right _ (List.mem_of_getElem? (i := 955) (by decide +kernel))) (by decide +kernel), in_L, by decide +kernel⟩
theorem st_L_release : Cond.static yL_release ∈ BW := BW_of (List.mem_append_right _ (List.mem_of_getElem? (i := 954) (by decide +kernel))) (by decide +kernel)
theorem im_X11_release : Cond.instanceMethod yX11_release ∈ BW := BW_of (List.mem_append_right _ (List.mem_of_getElem? (i := 1306) (by decide +kernel))) (by decide +kernel)
theorem iv_X11_release : Cond.instanceMethod yX11_release ∈ BW ∧ Cond.selects (yX11_release).cls yX11_release yX11_release ∈ BW := ⟨im_X11_release, BW_of (List.mem_append_right _ (List.mem_of_getElem? (i := 1307) (by decide +kernel))) (by decide +kernel)⟩
theorem ml_L_206 : Cond.methodLink RL 206 yL_holdTrial ∈ BW := BW_of (List.mem_append_right _ (List.mem_of_getElem? (i := 961) (by decide +kernel))) (by decide +kernel)
theorem ml_L_208 : Cond.methodLink RL 208 yX11_holdTrial ∈ BW := BW_of (List.mem_append_right _ (List.mem_of_getElem? (i := 1309) (by decide +kernel))) (by decide +kernel)
theorem mh_L_holdTrial : jMeH yL_holdTrial cL_holdTrial 4 (some .int) hh_L_holdTrial 3 := ⟨BW_of (List.mem_append_right _ (List.mem_of_getElem? (i := 963) (by decide +kernel))) (by decide +kernel), in_L, by decide +kernel⟩
theorem st_L_holdTrial : Cond.static yL_holdTrial ∈ BW := BW_of (List.mem_append_right _ (List.mem_of_getElem? (i := 962) (by decide +kernel))) (by decide +kernel)
theorem im_X11_holdTrial : Cond.instanceMethod yX11_holdTrial ∈ BW := BW_of (List.mem_append_right _ (List.mem_of_getElem? (i := 1310) (by decide +kernel))) (by decide +kernel)
theorem iv_X11_holdTrial : Cond.instanceMethod yX11_holdTrial ∈ BW ∧ Cond.selects (yX11_holdTrial).cls yX11_holdTrial yX11_holdTrial ∈ BW := ⟨im_X11_holdTrial, BW_of (List.mem_append_right _ (List.mem_of_getElem? (i := 1311) (by decide +kernel))) (by decide +kernel)⟩
theorem ml_L_209 : Cond.methodLink RL 209 yL_releaseTrial ∈ BW := BW_of (List.mem_append_right _ (List.mem_of_getElem? (i := 973) (by decide +kernel))) (by decide +kernel)
theorem ml_L_211 : Cond.methodLink RL 211 yX11_releaseTrial ∈ BW := BW_of (List.mem_append_right _ (List.mem_of_getElem? (i := 1313) (by decide +kernel))) (by decide +kernel)
theorem mh_L_releaseTrial : jMeH yL_releaseTrial cL_releaseTrial 4 (some .int) hh_L_releaseTrial 3 := ⟨BW_of (List.mem_append_right _ (List.mem_of_getElem? (i := 975) (by decide +kernel))) (by decide +kernel), in_L, by decide +kernel⟩
theorem st_L_releaseTrial : Cond.static yL_releaseTrial ∈ BW := BW_of (List.mem_append_right _ (List.mem_of_getElem? (i := 974) (by decide +kernel))) (by decide +kernel)
theorem im_X11_releaseTrial : Cond.instanceMethod yX11_releaseTrial ∈ BW := BW_of (List.mem_append_right _ (List.mem_of_getElem? (i := 1314) (by decide +kernel))) (by decide +kernel)
theorem iv_X11_releaseTrial : Cond.instanceMethod yX11_releaseTrial ∈ BW ∧ Cond.selects (yX11_releaseTrial).cls yX11_releaseTrial yX11_releaseTrial ∈ BW := ⟨im_X11_releaseTrial, BW_of (List.mem_append_right _ (List.mem_of_getElem? (i := 1315) (by decide +kernel))) (by decide +kernel)⟩
theorem ml_L_212 : Cond.methodLink RL 212 yL_isHeld ∈ BW := BW_of (List.mem_append_right _ (List.mem_of_getElem? (i := 985) (by decide +kernel))) (by decide +kernel)
theorem ml_L_214 : Cond.methodLink RL 214 yX11_isHeld ∈ BW := BW_of (List.mem_append_right _ (List.mem_of_getElem? (i := 1317) (by decide +kernel))) (by decide +kernel)
theorem mh_L_isHeld : jMeH yL_isHeld cL_isHeld 5 (some .int) hh_L_isHeld 4 := ⟨BW_of (List.mem_append_right _ (List.mem_of_getElem? (i := 987) (by decide +kernel))) (by decide +kernel), in_L, by decide +kernel⟩
theorem st_L_isHeld : Cond.static yL_isHeld ∈ BW := BW_of (List.mem_append_right _ (List.mem_of_getElem? (i := 986) (by decide +kernel))) (by decide +kernel)
theorem im_X11_isHeld : Cond.instanceMethod yX11_isHeld ∈ BW := BW_of (List.mem_append_right _ (List.mem_of_getElem? (i := 1318) (by decide +kernel))) (by decide +kernel)
theorem iv_X11_isHeld : Cond.instanceMethod yX11_isHeld ∈ BW ∧ Cond.selects (yX11_isHeld).cls yX11_isHeld yX11_isHeld ∈ BW := ⟨im_X11_isHeld, BW_of (List.mem_append_right _ (List.mem_of_getElem? (i := 1319) (by decide +kernel))) (by decide +kernel)⟩
theorem ml_L_215 : Cond.methodLink RL 215 yX10_entries ∈ BW := BW_of (List.mem_append_right _ (List.mem_of_getElem? (i := 306) (by decide +kernel))) (by decide +kernel)
theorem im_X10_entries : Cond.instanceMethod yX10_entries ∈ BW := BW_of (List.mem_append_right _ (List.mem_of_getElem? (i := 307) (by decide +kernel))) (by decide +kernel)
theorem iv_X10_entries : Cond.instanceMethod yX10_entries ∈ BW ∧ Cond.selects (yX10_entries).cls yX10_entries yX10_entries ∈ BW := ⟨im_X10_entries, BW_of (List.mem_append_right _ (List.mem_of_getElem? (i := 308) (by decide +kernel))) (by decide +kernel)⟩
theorem ml_L_218 : Cond.methodLink RL 218 yX11_entries ∈ BW := BW_of (List.mem_append_right _ (List.mem_of_getElem? (i := 1321) (by decide +kernel))) (by decide +kernel)
theorem im_X11_entries : Cond.instanceMethod yX11_entries ∈ BW := BW_of (List.mem_append_right _ (List.mem_of_getElem? (i := 1322) (by decide +kernel))) (by decide +kernel)
theorem iv_X11_entries : Cond.instanceMethod yX11_entries ∈ BW ∧ Cond.selects (yX11_entries).cls yX11_entries yX11_entries ∈ BW := ⟨im_X11_entries, BW_of (List.mem_append_right _ (List.mem_of_getElem? (i := 1323) (by decide +kernel))) (by decide +kernel)⟩
theorem ml_L_219 : Cond.methodLink RL 219 yL_shownLast ∈ BW := BW_of (List.mem_append_right _ (List.mem_of_getElem? (i := 992) (by decide +kernel))) (by decide +kernel)
theorem ml_L_221 : Cond.methodLink RL 221 yX11_shownLast ∈ BW := BW_of (List.mem_append_right _ (List.mem_of_getElem? (i := 1325) (by decide +kernel))) (by decide +kernel)
theorem mh_L_shownLast : jMeH yL_shownLast cL_shownLast 5 (some .int) hh_L_shownLast 4 := ⟨BW_of (List.mem_append_right _ (List.mem_of_getElem? (i := 994) (by decide +kernel))) (by decide +kernel), in_L, by decide +kernel⟩
theorem st_L_shownLast : Cond.static yL_shownLast ∈ BW := BW_of (List.mem_append_right _ (List.mem_of_getElem? (i := 993) (by decide +kernel))) (by decide +kernel)
theorem im_X11_shownLast : Cond.instanceMethod yX11_shownLast ∈ BW := BW_of (List.mem_append_right _ (List.mem_of_getElem? (i := 1326) (by decide +kernel))) (by decide +kernel)
theorem iv_X11_shownLast : Cond.instanceMethod yX11_shownLast ∈ BW ∧ Cond.selects (yX11_shownLast).cls yX11_shownLast yX11_shownLast ∈ BW := ⟨im_X11_shownLast, BW_of (List.mem_append_right _ (List.mem_of_getElem? (i := 1327) (by decide +kernel))) (by decide +kernel)⟩
end WRD
