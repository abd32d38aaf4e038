section WRD
theorem cl_L_9 : Cond.classLink RL 9 RX10 ∈ BW := BW_of (List.mem_append_right _ (List.mem_of_getElem? (i := 28) (by decide +kernel))) (by decide +kernel)
theorem ml_L_167 : Cond.methodLink RL 167 yX10_init ∈ BW := BW_of (List.mem_append_right _ (List.mem_of_getElem? (i := 30) (by decide +kernel))) (by decide +kernel)
theorem ml_L_168 : Cond.methodLink RL 168 yL_cell ∈ BW := BW_of (List.mem_append_right _ (List.mem_of_getElem? (i := 305) (by decide +kernel))) (by decide +kernel)
theorem ml_L_172 : Cond.methodLink RL 172 yL_act ∈ BW := BW_of (List.mem_append_right _ (List.mem_of_getElem? (i := 312) (by decide +kernel))) (by decide +kernel)
theorem ml_L_175 : Cond.methodLink RL 175 yL_areAlike ∈ BW := BW_of (List.mem_append_right _ (List.mem_of_getElem? (i := 910) (by decide +kernel))) (by decide +kernel)
theorem ml_L_179 : Cond.methodLink RL 179 yL_isFlagSo ∈ BW := BW_of (List.mem_append_right _ (List.mem_of_getElem? (i := 945) (by decide +kernel))) (by decide +kernel)
theorem ml_L_183 : Cond.methodLink RL 183 yL_isTrialSo ∈ BW := BW_of (List.mem_append_right _ (List.mem_of_getElem? (i := 975) (by decide +kernel))) (by decide +kernel)
theorem ml_L_186 : Cond.methodLink RL 186 yL_isMovedSo ∈ BW := BW_of (List.mem_append_right _ (List.mem_of_getElem? (i := 978) (by decide +kernel))) (by decide +kernel)
theorem me_L_cell : jMe yL_cell cL_cell 2 (some .int) 2 := ⟨BW_of (List.mem_append_right _ (List.mem_of_getElem? (i := 307) (by decide +kernel))) (by decide +kernel), in_L, by decide +kernel⟩
theorem st_L_cell : Cond.static yL_cell ∈ BW := BW_of (List.mem_append_right _ (List.mem_of_getElem? (i := 306) (by decide +kernel))) (by decide +kernel)
theorem st_L_act : Cond.static yL_act ∈ BW := BW_of (List.mem_append_right _ (List.mem_of_getElem? (i := 313) (by decide +kernel))) (by decide +kernel)
theorem st_L_areAlike : Cond.static yL_areAlike ∈ BW := BW_of (List.mem_append_right _ (List.mem_of_getElem? (i := 911) (by decide +kernel))) (by decide +kernel)
theorem st_L_isFlagSo : Cond.static yL_isFlagSo ∈ BW := BW_of (List.mem_append_right _ (List.mem_of_getElem? (i := 946) (by decide +kernel))) (by decide +kernel)
theorem st_L_isTrialSo : Cond.static yL_isTrialSo ∈ BW := BW_of (List.mem_append_right _ (List.mem_of_getElem? (i := 976) (by decide +kernel))) (by decide +kernel)
theorem st_L_isMovedSo : Cond.static yL_isMovedSo ∈ BW := BW_of (List.mem_append_right _ (List.mem_of_getElem? (i := 979) (by decide +kernel))) (by decide +kernel)
end WRD
