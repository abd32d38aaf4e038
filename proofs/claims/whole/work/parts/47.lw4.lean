section WRD
theorem cl_L_8 : Cond.classLink RL 8 RX10 ∈ BW := BW_of (List.mem_append_right _ (List.mem_of_getElem? (i := 29) (by decide +kernel))) (by decide +kernel)
theorem cl_L_113 : Cond.classLink RL 113 RX11 ∈ BW := BW_of (List.mem_append_right _ (List.mem_of_getElem? (i := 999) (by decide +kernel))) (by decide +kernel)
theorem ml_L_112 : Cond.methodLink RL 112 yX10_init ∈ BW := BW_of (List.mem_append_right _ (List.mem_of_getElem? (i := 31) (by decide +kernel))) (by decide +kernel)
theorem ml_L_115 : Cond.methodLink RL 115 yX11_init ∈ BW := BW_of (List.mem_append_right _ (List.mem_of_getElem? (i := 1001) (by decide +kernel))) (by decide +kernel)
theorem im_X11_init : Cond.instanceMethod yX11_init ∈ BW := BW_of (List.mem_append_right _ (List.mem_of_getElem? (i := 1002) (by decide +kernel))) (by decide +kernel)
theorem ii_X11_init : (yX11_init).name = "<init>" ∧ Cond.instanceMethod yX11_init ∈ BW := ⟨rfl, im_X11_init⟩
theorem aw_long : Cond.arrayClass .long ∈ BW := BW_of (List.mem_append_right _ (List.mem_of_getElem? (i := 1329) (by decide +kernel))) (by decide +kernel)
end WRD
