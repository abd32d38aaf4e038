section WRD
theorem cl_X0_9 : Cond.classLink RX0 9 RX8 ∈ BW := BW_of (List.mem_append_right _ (List.mem_of_getElem? (i := 60) (by decide +kernel))) (by decide +kernel)
theorem cl_X0_20 : Cond.classLink RX0 20 RX4 ∈ BW := BW_of (List.mem_append_right _ (List.mem_of_getElem? (i := 62) (by decide +kernel))) (by decide +kernel)
theorem cl_X0_36 : Cond.classLink RX0 36 RX7 ∈ BW := BW_of (List.mem_append_right _ (List.mem_of_getElem? (i := 94) (by decide +kernel))) (by decide +kernel)
theorem cl_X0_43 : Cond.classLink RX0 43 RX2 ∈ BW := BW_of (List.mem_append_right _ (List.mem_of_getElem? (i := 107) (by decide +kernel))) (by decide +kernel)
theorem cl_X10_9 : Cond.classLink RX10 9 RX6 ∈ BW := BW_of (List.mem_append_right _ (List.mem_of_getElem? (i := 36) (by decide +kernel))) (by decide +kernel)
theorem cl_X10_16 : Cond.classLink RX10 16 RX0 ∈ BW := BW_of (List.mem_append_right _ (List.mem_of_getElem? (i := 54) (by decide +kernel))) (by decide +kernel)
theorem cl_X10_23 : Cond.classLink RX10 23 RX3 ∈ BW := BW_of (List.mem_append_right _ (List.mem_of_getElem? (i := 167) (by decide +kernel))) (by decide +kernel)
theorem cl_X10_29 : Cond.classLink RX10 29 RX4 ∈ BW := BW_of (List.mem_append_right _ (List.mem_of_getElem? (i := 169) (by decide +kernel))) (by decide +kernel)
theorem cl_X10_38 : Cond.classLink RX10 38 RX9 ∈ BW := BW_of (List.mem_append_right _ (List.mem_of_getElem? (i := 171) (by decide +kernel))) (by decide +kernel)
theorem cl_X10_44 : Cond.classLink RX10 44 RJx4a65c ∈ BW := BW_of (List.mem_append_right _ (List.mem_of_getElem? (i := 173) (by decide +kernel))) (by decide +kernel)
theorem cl_X10_51 : Cond.classLink RX10 51 RX5 ∈ BW := BW_of (List.mem_append_right _ (List.mem_of_getElem? (i := 199) (by decide +kernel))) (by decide +kernel)
theorem it_Jx4a65c : Cond.instantiable RJx4a65c 3 ∈ BW := BW_of (List.mem_append_right _ (List.mem_of_getElem? (i := 174) (by decide +kernel))) (by decide +kernel)
theorem hf_Jx4a65c : ∀ j, j < 3 → defaultValue (tyJx4a65c j) = vp_V [.int 0, .null, .int 0] j := by
  intro j hj
  match j, hj with
  | 0, _ => rfl
  | 1, _ => rfl
  | 2, _ => rfl
  | j + 3, hj => exact absurd hj (by omega)
theorem it_X0 : Cond.instantiable RX0 7 ∈ BW := BW_of (List.mem_append_right _ (List.mem_of_getElem? (i := 55) (by decide +kernel))) (by decide +kernel)
theorem hf_X0 : ∀ j, j < 7 → defaultValue (tyX0 j) = vp_V [.null, .null, .null, .null, .null, .null, .null] j := by
  intro j hj
  match j, hj with
  | 0, _ => rfl
  | 1, _ => rfl
  | 2, _ => rfl
  | 3, _ => rfl
  | 4, _ => rfl
  | 5, _ => rfl
  | 6, _ => rfl
  | j + 7, hj => exact absurd hj (by omega)
theorem it_X2 : Cond.instantiable RX2 4 ∈ BW := BW_of (List.mem_append_right _ (List.mem_of_getElem? (i := 108) (by decide +kernel))) (by decide +kernel)
theorem hf_X2 : ∀ j, j < 4 → defaultValue (tyX2 j) = vp_V [.null, .null, .null, .int 0] j := by
  intro j hj
  match j, hj with
  | 0, _ => rfl
  | 1, _ => rfl
  | 2, _ => rfl
  | 3, _ => rfl
  | j + 4, hj => exact absurd hj (by omega)
theorem it_X3 : Cond.instantiable RX3 3 ∈ BW := BW_of (List.mem_append_right _ (List.mem_of_getElem? (i := 238) (by decide +kernel))) (by decide +kernel)
theorem hf_X3 : ∀ j, j < 3 → defaultValue (tyX3 j) = vp_V [.null, .null, .int 0] j := by
  intro j hj
  match j, hj with
  | 0, _ => rfl
  | 1, _ => rfl
  | 2, _ => rfl
  | j + 3, hj => exact absurd hj (by omega)
theorem it_X4 : Cond.instantiable RX4 2 ∈ BW := BW_of (List.mem_append_right _ (List.mem_of_getElem? (i := 63) (by decide +kernel))) (by decide +kernel)
theorem hf_X4 : ∀ j, j < 2 → defaultValue (tyX4 j) = vp_V [.null, .null] j := by
  intro j hj
  match j, hj with
  | 0, _ => rfl
  | 1, _ => rfl
  | j + 2, hj => exact absurd hj (by omega)
theorem it_X5 : Cond.instantiable RX5 5 ∈ BW := BW_of (List.mem_append_right _ (List.mem_of_getElem? (i := 201) (by decide +kernel))) (by decide +kernel)
theorem hf_X5 : ∀ j, j < 5 → defaultValue (tyX5 j) = vp_V [.null, .null, .null, .null, .null] j := by
  intro j hj
  match j, hj with
  | 0, _ => rfl
  | 1, _ => rfl
  | 2, _ => rfl
  | 3, _ => rfl
  | 4, _ => rfl
  | j + 5, hj => exact absurd hj (by omega)
theorem it_X6 : Cond.instantiable RX6 2 ∈ BW := BW_of (List.mem_append_right _ (List.mem_of_getElem? (i := 37) (by decide +kernel))) (by decide +kernel)
theorem hf_X6 : ∀ j, j < 2 → defaultValue (tyX6 j) = vp_V [.null, .null] j := by
  intro j hj
  match j, hj with
  | 0, _ => rfl
  | 1, _ => rfl
  | j + 2, hj => exact absurd hj (by omega)
theorem it_X7 : Cond.instantiable RX7 2 ∈ BW := BW_of (List.mem_append_right _ (List.mem_of_getElem? (i := 95) (by decide +kernel))) (by decide +kernel)
theorem hf_X7 : ∀ j, j < 2 → defaultValue (tyX7 j) = vp_V [.int 0, .int 0] j := by
  intro j hj
  match j, hj with
  | 0, _ => rfl
  | 1, _ => rfl
  | j + 2, hj => exact absurd hj (by omega)
theorem it_X8 : Cond.instantiable RX8 2 ∈ BW := BW_of (List.mem_append_right _ (List.mem_of_getElem? (i := 126) (by decide +kernel))) (by decide +kernel)
theorem hf_X8 : ∀ j, j < 2 → defaultValue (tyX8 j) = vp_V [.null, .int 0] j := by
  intro j hj
  match j, hj with
  | 0, _ => rfl
  | 1, _ => rfl
  | j + 2, hj => exact absurd hj (by omega)
theorem it_X9 : Cond.instantiable RX9 4 ∈ BW := BW_of (List.mem_append_right _ (List.mem_of_getElem? (i := 254) (by decide +kernel))) (by decide +kernel)
theorem hf_X9 : ∀ j, j < 4 → defaultValue (tyX9 j) = vp_V [.null, .int 0, .int 0, .int 0] j := by
  intro j hj
  match j, hj with
  | 0, _ => rfl
  | 1, _ => rfl
  | 2, _ => rfl
  | 3, _ => rfl
  | j + 4, hj => exact absurd hj (by omega)
theorem it_X10 : Cond.instantiable RX10 10 ∈ BW := BW_of (List.mem_append_right _ (List.mem_of_getElem? (i := 29) (by decide +kernel))) (by decide +kernel)
theorem hf_X10 : ∀ j, j < 10 → defaultValue (tyX10 j) = vp_V [.null, .null, .null, .null, .null, .null, .null, .null, .null, .null] j := by
  intro j hj
  match j, hj with
  | 0, _ => rfl
  | 1, _ => rfl
  | 2, _ => rfl
  | 3, _ => rfl
  | 4, _ => rfl
  | 5, _ => rfl
  | 6, _ => rfl
  | 7, _ => rfl
  | 8, _ => rfl
  | 9, _ => rfl
  | j + 10, hj => exact absurd hj (by omega)
theorem ao_X8 : Cond.arrayOver (.object RX8) ∈ tables_1 := List.mem_of_getElem? (i := 61) (by decide +kernel)
theorem ao_X3 : Cond.arrayOver (.object RX3) ∈ tables_1 := List.mem_of_getElem? (i := 168) (by decide +kernel)
theorem ao_X9 : Cond.arrayOver (.object RX9) ∈ tables_1 := List.mem_of_getElem? (i := 172) (by decide +kernel)
theorem ao_X5 : Cond.arrayOver (.object RX5) ∈ tables_1 := List.mem_of_getElem? (i := 200) (by decide +kernel)
theorem me_X0_init : jMe yX0_init cX0_init 2 none 0 := ⟨BW_of (List.mem_append_right _ (List.mem_of_getElem? (i := 58) (by decide +kernel))) (by decide +kernel), in_X0, by decide +kernel⟩
theorem im_X0_init : Cond.instanceMethod yX0_init ∈ BW := BW_of (List.mem_append_right _ (List.mem_of_getElem? (i := 57) (by decide +kernel))) (by decide +kernel)
theorem ii_X0_init : (yX0_init).name = "<init>" ∧ Cond.instanceMethod yX0_init ∈ BW := ⟨rfl, im_X0_init⟩
theorem im_X2_init : Cond.instanceMethod yX2_init ∈ BW := BW_of (List.mem_append_right _ (List.mem_of_getElem? (i := 110) (by decide +kernel))) (by decide +kernel)
theorem ii_X2_init : (yX2_init).name = "<init>" ∧ Cond.instanceMethod yX2_init ∈ BW := ⟨rfl, im_X2_init⟩
theorem im_X3_init : Cond.instanceMethod yX3_init ∈ BW := BW_of (List.mem_append_right _ (List.mem_of_getElem? (i := 240) (by decide +kernel))) (by decide +kernel)
theorem ii_X3_init : (yX3_init).name = "<init>" ∧ Cond.instanceMethod yX3_init ∈ BW := ⟨rfl, im_X3_init⟩
theorem im_X4_init : Cond.instanceMethod yX4_init ∈ BW := BW_of (List.mem_append_right _ (List.mem_of_getElem? (i := 65) (by decide +kernel))) (by decide +kernel)
theorem ii_X4_init : (yX4_init).name = "<init>" ∧ Cond.instanceMethod yX4_init ∈ BW := ⟨rfl, im_X4_init⟩
theorem im_X5_init : Cond.instanceMethod yX5_init ∈ BW := BW_of (List.mem_append_right _ (List.mem_of_getElem? (i := 203) (by decide +kernel))) (by decide +kernel)
theorem ii_X5_init : (yX5_init).name = "<init>" ∧ Cond.instanceMethod yX5_init ∈ BW := ⟨rfl, im_X5_init⟩
theorem im_X6_init : Cond.instanceMethod yX6_init ∈ BW := BW_of (List.mem_append_right _ (List.mem_of_getElem? (i := 39) (by decide +kernel))) (by decide +kernel)
theorem ii_X6_init : (yX6_init).name = "<init>" ∧ Cond.instanceMethod yX6_init ∈ BW := ⟨rfl, im_X6_init⟩
theorem im_X7_init : Cond.instanceMethod yX7_init ∈ BW := BW_of (List.mem_append_right _ (List.mem_of_getElem? (i := 97) (by decide +kernel))) (by decide +kernel)
theorem ii_X7_init : (yX7_init).name = "<init>" ∧ Cond.instanceMethod yX7_init ∈ BW := ⟨rfl, im_X7_init⟩
theorem im_X8_init : Cond.instanceMethod yX8_init ∈ BW := BW_of (List.mem_append_right _ (List.mem_of_getElem? (i := 128) (by decide +kernel))) (by decide +kernel)
theorem ii_X8_init : (yX8_init).name = "<init>" ∧ Cond.instanceMethod yX8_init ∈ BW := ⟨rfl, im_X8_init⟩
theorem im_X9_init : Cond.instanceMethod yX9_init ∈ BW := BW_of (List.mem_append_right _ (List.mem_of_getElem? (i := 256) (by decide +kernel))) (by decide +kernel)
theorem ii_X9_init : (yX9_init).name = "<init>" ∧ Cond.instanceMethod yX9_init ∈ BW := ⟨rfl, im_X9_init⟩
theorem me_X10_init : jMe yX10_init cX10_init 2 none 0 := ⟨BW_of (List.mem_append_right _ (List.mem_of_getElem? (i := 32) (by decide +kernel))) (by decide +kernel), in_X10, by decide +kernel⟩
theorem im_X10_init : Cond.instanceMethod yX10_init ∈ BW := BW_of (List.mem_append_right _ (List.mem_of_getElem? (i := 31) (by decide +kernel))) (by decide +kernel)
theorem ii_X10_init : (yX10_init).name = "<init>" ∧ Cond.instanceMethod yX10_init ∈ BW := ⟨rfl, im_X10_init⟩
theorem ml_X0_3 : Cond.methodLink RX0 3 objectInit ∈ BW := BW_of (List.mem_append_right _ (List.mem_of_getElem? (i := 59) (by decide +kernel))) (by decide +kernel)
theorem ml_X0_22 : Cond.methodLink RX0 22 yX4_init ∈ BW := BW_of (List.mem_append_right _ (List.mem_of_getElem? (i := 64) (by decide +kernel))) (by decide +kernel)
theorem mn_X0_38 : Cond.methodLinkNest RX0 38 yX7_init "FlagChamber" ∈ tables_1 := List.mem_of_getElem? (i := 96) (by decide +kernel)
theorem mn_X0_45 : Cond.methodLinkNest RX0 45 yX2_init "FlagChamber" ∈ tables_1 := List.mem_of_getElem? (i := 109) (by decide +kernel)
theorem mn_X0_50 : Cond.methodLinkNest RX0 50 yX8_init "FlagChamber" ∈ tables_1 := List.mem_of_getElem? (i := 127) (by decide +kernel)
theorem ml_X10_3 : Cond.methodLink RX10 3 objectInit ∈ BW := BW_of (List.mem_append_right _ (List.mem_of_getElem? (i := 33) (by decide +kernel))) (by decide +kernel)
theorem mn_X10_11 : Cond.methodLinkNest RX10 11 yX6_init "FlagChamber" ∈ tables_1 := List.mem_of_getElem? (i := 38) (by decide +kernel)
theorem ml_X10_18 : Cond.methodLink RX10 18 yX0_init ∈ BW := BW_of (List.mem_append_right _ (List.mem_of_getElem? (i := 56) (by decide +kernel))) (by decide +kernel)
theorem ml_X10_31 : Cond.methodLink RX10 31 yX4_init ∈ BW := BW_of (List.mem_append_right _ (List.mem_of_getElem? (i := 170) (by decide +kernel))) (by decide +kernel)
theorem ml_X10_46 : Cond.methodLink RX10 46 yJx4a65c_init_da8c8 ∈ BW := BW_of (List.mem_append_right _ (List.mem_of_getElem? (i := 175) (by decide +kernel))) (by decide +kernel)
theorem ml_X10_57 : Cond.methodLink RX10 57 yX5_init ∈ BW := BW_of (List.mem_append_right _ (List.mem_of_getElem? (i := 202) (by decide +kernel))) (by decide +kernel)
theorem mn_X10_69 : Cond.methodLinkNest RX10 69 yX3_init "FlagChamber" ∈ tables_1 := List.mem_of_getElem? (i := 239) (by decide +kernel)
theorem mn_X10_70 : Cond.methodLinkNest RX10 70 yX9_init "FlagChamber" ∈ tables_1 := List.mem_of_getElem? (i := 255) (by decide +kernel)
theorem me_Jx4a65c_init_da8c8 : jMe yJx4a65c_init_da8c8 cJx4a65c_init_da8c8 1 none 0 := ⟨BW_of (List.mem_append_right _ (List.mem_of_getElem? (i := 177) (by decide +kernel))) (by decide +kernel), in_Jx4a65c, by decide +kernel⟩
theorem im_Jx4a65c_init_da8c8 : Cond.instanceMethod yJx4a65c_init_da8c8 ∈ BW := BW_of (List.mem_append_right _ (List.mem_of_getElem? (i := 176) (by decide +kernel))) (by decide +kernel)
theorem ii_Jx4a65c_init_da8c8 : (yJx4a65c_init_da8c8).name = "<init>" ∧ Cond.instanceMethod yJx4a65c_init_da8c8 ∈ BW := ⟨rfl, im_Jx4a65c_init_da8c8⟩
theorem ml_Jx4a65c_1 : Cond.methodLink RJx4a65c 1 yJxc12de_init_da8c8 ∈ BW := BW_of (List.mem_append_right _ (List.mem_of_getElem? (i := 178) (by decide +kernel))) (by decide +kernel)
theorem in_Jxc12de : Cond.initialized RJxc12de ∈ BW := BW_of (List.mem_append_right _ (List.mem_of_getElem? (i := 10) (by decide +kernel))) (by decide +kernel)
theorem me_Jxc12de_init_da8c8 : jMe yJxc12de_init_da8c8 cJxc12de_init_da8c8 1 none 0 := ⟨BW_of (List.mem_append_right _ (List.mem_of_getElem? (i := 180) (by decide +kernel))) (by decide +kernel), in_Jxc12de, by decide +kernel⟩
theorem im_Jxc12de_init_da8c8 : Cond.instanceMethod yJxc12de_init_da8c8 ∈ BW := BW_of (List.mem_append_right _ (List.mem_of_getElem? (i := 179) (by decide +kernel))) (by decide +kernel)
theorem ii_Jxc12de_init_da8c8 : (yJxc12de_init_da8c8).name = "<init>" ∧ Cond.instanceMethod yJxc12de_init_da8c8 ∈ BW := ⟨rfl, im_Jxc12de_init_da8c8⟩
theorem ml_Jxc12de_1 : Cond.methodLink RJxc12de 1 yJxa1e45_init_da8c8 ∈ BW := BW_of (List.mem_append_right _ (List.mem_of_getElem? (i := 181) (by decide +kernel))) (by decide +kernel)
theorem in_Jxa1e45 : Cond.initialized RJxa1e45 ∈ BW := BW_of (List.mem_append_right _ (List.mem_of_getElem? (i := 9) (by decide +kernel))) (by decide +kernel)
theorem me_Jxa1e45_init_da8c8 : jMe yJxa1e45_init_da8c8 cJxa1e45_init_da8c8 1 none 0 := ⟨BW_of (List.mem_append_right _ (List.mem_of_getElem? (i := 183) (by decide +kernel))) (by decide +kernel), in_Jxa1e45, by decide +kernel⟩
theorem im_Jxa1e45_init_da8c8 : Cond.instanceMethod yJxa1e45_init_da8c8 ∈ BW := BW_of (List.mem_append_right _ (List.mem_of_getElem? (i := 182) (by decide +kernel))) (by decide +kernel)
theorem ii_Jxa1e45_init_da8c8 : (yJxa1e45_init_da8c8).name = "<init>" ∧ Cond.instanceMethod yJxa1e45_init_da8c8 ∈ BW := ⟨rfl, im_Jxa1e45_init_da8c8⟩
theorem ml_Jxa1e45_1 : Cond.methodLink RJxa1e45 1 objectInit ∈ BW := BW_of (List.mem_append_right _ (List.mem_of_getElem? (i := 184) (by decide +kernel))) (by decide +kernel)
theorem fl_Jxc12de_7 : Cond.fieldLink RJxc12de 7 "java/util/AbstractList" "modCount" "I" ∈ BW := BW_of (List.mem_append_right _ (List.mem_of_getElem? (i := 189) (by decide +kernel))) (by decide +kernel)
end WRD
