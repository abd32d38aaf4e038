section BEG
/-- the beginning: the two things and the out array are made -/
theorem c_law_begin {κ : jCx} {Qf : Int32 → State → Prop} {b0 N : Nat} {xs : Nat → Int32} (X : jX κ RL code 7 (some .boolean)) (M0 : jMem) (hb : b0 < kB κ) (hM0 : b0 < (kS κ).heap.size ∧ va_X b0 N xs (kS κ) (kS κ).heap) (hout : ∀ a e, M0 a = some e → a < kB κ)
    {vG vH vR : Int32} {SG SH SR : jS} {SP : Nat → jS} (hG : f_X4_arrange zS 27 6 = some (0, vG, SG)) (hH : f_X4_arrange zS 62 8 = some (0, vH, SH)) (hR : f_X5_forget zS 68 = some (0, vR, SR)) (hP : ∀ p, p < 20 → ∃ v, f_X5_forget zS (82 + 12 * p) = some (0, v, SP p))
    (hend : ∀ (S : jS) (Xm : jMem) (bc bs : Nat) (lv : List (Nat × Value)), J κ 7 room_1 Qf (some 1) (memG 0 358 (kD κ) (kB κ) S Xm) (zD (kB κ)) bc bs lv 2312 [.int 1]) :
    J κ 7 room_1 Qf (lawF N xs 513 0 (sF SG SH SR SP) [] (fun _ => 0) zS) M0 (fun n => n = kB κ + 0) 20000 1600000 [(0, .ref b0)] 0 [] := by
  refine j_new X (bc1 := 19000) (bs1 := 1590000) cf_X10 cl_L_8 ⟨it_X10, in_X10⟩ hf_X10 dL_law_0 (by decide) ?_
  refine j_zle (z1 := fun n => n = kB κ + 1) (fun n9 hn9 => by have hn9 : n9 = _ := hn9; omega) ?_
  refine j_dup X dL_law_3 rfl ?_
  refine j_eq (o1 := jbin0 (some ((0 : Nat), (0 : Int32), ())) (fun _ _ => lawF N xs 513 0 (sF SG SH SR SP) [] (fun _ => 0) zS)) rfl ?_
  refine j_call0I X 18000 1580000 (c_X10_init X.tr _ jUp_eq hG hH hR hP) me_X10_init ml_L_112 ii_X10_init dL_law_4 (rest := [.ref (kB κ + 0)]) rfl rfl ⟨Nat.le_of_ble_eq_true rfl, Nat.le_of_ble_eq_true rfl⟩ (by decide) (Nat.le_of_ble_eq_true rfl) (fun v S' M' hM' => ?_)
  subst hM'
  refine j_astore_n X [(1, .ref (kB κ + 0)), (0, .ref b0)] dL_law_7 rfl (by decide) rfl ?_
  refine j_new X (bc1 := 17000) (bs1 := 1570000) cf_X11 cl_L_113 ⟨it_X11, in_X11⟩ hf_X11 dL_law_8 (by decide) ?_
  refine j_zle (z1 := fun n => n = kB κ + (359 + 0)) (fun n9 hn9 => by have hn9 : n9 = _ := hn9; omega) ?_
  refine j_dup X dL_law_11 rfl ?_
  refine j_eq (o1 := jbin0 (some ((0 : Nat), (0 : Int32), ())) (fun _ _ => lawF N xs 513 0 (sF SG SH SR SP) [] (fun _ => 0) zS)) rfl ?_
  refine j_call0I X 16000 1560000 (c_X11_init X.tr _ jUp_eq) me_X11_init ml_L_115 ii_X11_init dL_law_12 (rest := [.ref (kB κ + 358)]) rfl rfl ⟨Nat.le_of_ble_eq_true rfl, Nat.le_of_ble_eq_true rfl⟩ (by decide) (Nat.le_of_ble_eq_true rfl) (fun v S' M' hM' => ?_)
  subst hM'
  refine j_astore_n X [(2, .ref (kB κ + 358)), (1, .ref (kB κ + 0)), (0, .ref b0)] dL_law_15 rfl (by decide) rfl ?_
  refine j_iconst X (1 : Int32) dL_law_16 (by rfl) ?_
  refine j_newL X (N := 1) (h := kB κ + 387) 15000 1550000 (by decide) (by decide) (by decide) aw_long dL_law_17 (by decide) ?_
  refine j_astore_n X [(3, .ref (kB κ + 387)), (2, .ref (kB κ + 358)), (1, .ref (kB κ + 0)), (0, .ref b0)] dL_law_19 rfl (by decide) rfl ?_
  refine j_iconst X (0 : Int32) dL_law_20 (by rfl) ?_
  refine j_istore X [(4, .int (0 : Int32)), (3, .ref (kB κ + 387)), (2, .ref (kB κ + 358)), (1, .ref (kB κ + 0)), (0, .ref b0)] dL_law_21 (by decide) rfl ?_
  refine j_lv [4, 3, 2, 1, 0] rfl ?_
  refine j_zle (z1 := zD (kB κ)) (fun n9 hn9 => by have hn9 : n9 = _ := hn9; omega) ?_
  refine j_bud (bc1 := 16 * 513) (bs1 := 3000 * 513) (by decide) (by decide) ?_
  have hlo : ∀ a e, M0 a = some e → ∀ k, a ≠ kB κ + k := fun a e he k => by
    have := hout a e he
    omega
  refine j_mem (M1 := memG 0 358 (kD κ) (kB κ) (sF SG SH SR SP) (jUp (memG 358 387 (kD κ) (kB κ) zS (jUp M0 (kB κ + 66) (listC 0 (kT κ) 0))) (kB κ + 387) (outC (kD κ) (fun _ => 0)))) (fun a e he => ?_) ?_
  · by_cases h387 : a = kB κ + 387
    · subst h387
      rw [memG_out (Or.inr (by omega)), jUp_eq] at he
      rw [jUp_eq]
      exact he
    · rw [jUp_ne h387]
      unfold memG at he ⊢
      by_cases h1 : kB κ + 0 ≤ a ∧ a < kB κ + 358 ∧ kd (a - kB κ) ≠ 0
      · rw [if_pos h1] at he
        rw [if_neg (by omega), jUp_ne (by omega), if_pos (by omega)]
        exact he
      · rw [if_neg h1, jUp_ne h387] at he
        by_cases h2 : kB κ + 358 ≤ a ∧ a < kB κ + 387 ∧ kd (a - kB κ) ≠ 0
        · rw [if_pos h2] at he
          rw [if_pos (by omega)]
          exact he
        · rw [if_neg h2] at he
          by_cases h66 : a = kB κ + 66
          · subst h66
            rw [jUp_eq] at he
            rw [if_neg (by omega), jUp_ne (by omega), if_neg (by omega), jUp_eq]
            exact he
          · rw [jUp_ne h66] at he
            have ha := hout a e he
            rw [if_neg (by omega), jUp_ne (by omega), if_neg (by omega), jUp_ne h66, jUp_ne (by omega)]
            exact he
  · refine c_law_loop X hend 513 0 _ [] (fun _ => 0) zS _ ⟨?_, ⟨0, kT κ, 0, fun _ => none, ?_, fun hc => absurd hc (Nat.lt_irrefl _), Nat.le_refl _, by decide, Or.inl ⟨rfl, rfl, X.k.1.2.2.2.2.1⟩, fun i hi => absurd hi (Nat.not_lt_zero _)⟩, jUp_eq, hb, hM0⟩
    · funext a
      by_cases h387 : a = kB κ + 387
      · subst h387
        rw [memG_out (Or.inr (by omega))]
      · unfold memG
        by_cases h2 : kB κ + 358 ≤ a ∧ a < kB κ + 387 ∧ kd (a - kB κ) ≠ 0
        · rw [jUp_ne h387, if_pos h2, if_pos h2]
        · rw [if_neg h2]
    · rw [jUp_ne (by omega), memG_out (by omega), jUp_eq]
      rfl
end BEG
