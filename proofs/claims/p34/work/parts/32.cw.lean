section WRD
theorem aw_int : Cond.arrayClass .int ∈ BW := BW_of (List.mem_append_right _ (List.mem_of_getElem? (i := 53) (by decide +kernel))) (by decide +kernel)
theorem aw_char : Cond.arrayClass .char ∈ BW := BW_of (List.mem_append_right _ (List.mem_of_getElem? (i := 141) (by decide +kernel))) (by decide +kernel)
theorem ao_int2 : Cond.arrayOver (.array .int) ∈ tables_1 := List.mem_of_getElem? (i := 43) (by decide +kernel)
theorem ml_X7_3 : Cond.methodLink RX7 3 objectInit ∈ BW := BW_of (List.mem_append_right _ (List.mem_of_getElem? (i := 99) (by decide +kernel))) (by decide +kernel)
theorem me_X7_init : jMe yX7_init cX7_init 1 none 0 := ⟨BW_of (List.mem_append_right _ (List.mem_of_getElem? (i := 98) (by decide +kernel))) (by decide +kernel), in_X7, by decide +kernel⟩
theorem ml_X2_3 : Cond.methodLink RX2 3 objectInit ∈ BW := BW_of (List.mem_append_right _ (List.mem_of_getElem? (i := 112) (by decide +kernel))) (by decide +kernel)
theorem me_X2_init : jMe yX2_init cX2_init 1 none 0 := ⟨BW_of (List.mem_append_right _ (List.mem_of_getElem? (i := 111) (by decide +kernel))) (by decide +kernel), in_X2, by decide +kernel⟩
theorem ml_X6_3 : Cond.methodLink RX6 3 objectInit ∈ BW := BW_of (List.mem_append_right _ (List.mem_of_getElem? (i := 41) (by decide +kernel))) (by decide +kernel)
theorem cl_X6_9 : Cond.classLink RX6 9 "[[I" ∈ BW := BW_of (List.mem_append_right _ (List.mem_of_getElem? (i := 42) (by decide +kernel))) (by decide +kernel)
theorem me_X6_init : jMe yX6_init cX6_init 1 none 0 := ⟨BW_of (List.mem_append_right _ (List.mem_of_getElem? (i := 40) (by decide +kernel))) (by decide +kernel), in_X6, by decide +kernel⟩
theorem ml_X8_3 : Cond.methodLink RX8 3 objectInit ∈ BW := BW_of (List.mem_append_right _ (List.mem_of_getElem? (i := 130) (by decide +kernel))) (by decide +kernel)
theorem me_X8_init : jMe yX8_init cX8_init 1 none 0 := ⟨BW_of (List.mem_append_right _ (List.mem_of_getElem? (i := 129) (by decide +kernel))) (by decide +kernel), in_X8, by decide +kernel⟩
theorem ml_X3_3 : Cond.methodLink RX3 3 objectInit ∈ BW := BW_of (List.mem_append_right _ (List.mem_of_getElem? (i := 242) (by decide +kernel))) (by decide +kernel)
theorem me_X3_init : jMe yX3_init cX3_init 1 none 0 := ⟨BW_of (List.mem_append_right _ (List.mem_of_getElem? (i := 241) (by decide +kernel))) (by decide +kernel), in_X3, by decide +kernel⟩
theorem ml_X9_3 : Cond.methodLink RX9 3 objectInit ∈ BW := BW_of (List.mem_append_right _ (List.mem_of_getElem? (i := 258) (by decide +kernel))) (by decide +kernel)
theorem me_X9_init : jMe yX9_init cX9_init 1 none 0 := ⟨BW_of (List.mem_append_right _ (List.mem_of_getElem? (i := 257) (by decide +kernel))) (by decide +kernel), in_X9, by decide +kernel⟩
theorem ml_X4_1 : Cond.methodLink RX4 1 objectInit ∈ BW := BW_of (List.mem_append_right _ (List.mem_of_getElem? (i := 67) (by decide +kernel))) (by decide +kernel)
theorem me_X4_init : jMe yX4_init cX4_init 2 none 1 := ⟨BW_of (List.mem_append_right _ (List.mem_of_getElem? (i := 66) (by decide +kernel))) (by decide +kernel), in_X4, by decide +kernel⟩
theorem ml_X5_3 : Cond.methodLink RX5 3 objectInit ∈ BW := BW_of (List.mem_append_right _ (List.mem_of_getElem? (i := 205) (by decide +kernel))) (by decide +kernel)
theorem cl_X5_15 : Cond.classLink RX5 15 "[[I" ∈ BW := BW_of (List.mem_append_right _ (List.mem_of_getElem? (i := 206) (by decide +kernel))) (by decide +kernel)
theorem ml_X5_29 : Cond.methodLink RX5 29 yX5_forget ∈ BW := BW_of (List.mem_append_right _ (List.mem_of_getElem? (i := 207) (by decide +kernel))) (by decide +kernel)
theorem me_X5_init : jMe yX5_init cX5_init 1 none 0 := ⟨BW_of (List.mem_append_right _ (List.mem_of_getElem? (i := 204) (by decide +kernel))) (by decide +kernel), in_X5, by decide +kernel⟩
end WRD
