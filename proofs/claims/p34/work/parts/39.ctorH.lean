section CTH
variable {l : Launch} {D : va_G} {B t0 : Nat}
theorem sF_a {SG SH SR : jS} {SP : Nat → jS} {k : Nat} (h1 : 24 ≤ k) (h2 : k < 61) : sF SG SH SR SP k = sA SG k := by unfold sF; rw [if_neg (by omega), if_pos h2]
theorem sF_z {SG SH SR : jS} {SP : Nat → jS} {k : Nat} (h : k < 24 ∨ (80 ≤ k ∧ k < 82) ∨ (322 ≤ k ∧ k < 346)) : sF SG SH SR SP k = fun _ => 0 := by
  unfold sF
  rcases h with h | h | h
  · rw [if_pos h]
  · rw [if_neg (by omega), if_neg (by omega), if_neg (by omega), if_neg (by omega), if_pos h.2]
  · rw [if_neg (by omega), if_neg (by omega), if_neg (by omega), if_neg (by omega), if_neg (by omega), if_neg (by omega), if_pos h.2]
theorem sF_h {SG SH SR : jS} {SP : Nat → jS} {k : Nat} (h1 : 61 ≤ k) (h2 : k < 65) : sF SG SH SR SP k = SH k := by unfold sF; rw [if_neg (by omega), if_neg (by omega), if_pos h2]
theorem sF_r {SG SH SR : jS} {SP : Nat → jS} {k : Nat} (h1 : 65 ≤ k) (h2 : k < 80) : sF SG SH SR SP k = SR k := by unfold sF; rw [if_neg (by omega), if_neg (by omega), if_neg (by omega), if_pos h2]
theorem sF_p {SG SH SR : jS} {SP : Nat → jS} {k p : Nat} (hp : p < 20) (h1 : 82 + 12 * p ≤ k) (h2 : k < 82 + 12 * p + 12) : sF SG SH SR SP k = SP p k := by
  unfold sF
  rw [if_neg (by omega), if_neg (by omega), if_neg (by omega), if_neg (by omega), if_neg (by omega), if_pos (by omega), show (k - 82) / 12 = p by omega]
theorem sF_t {SG SH SR : jS} {SP : Nat → jS} {k t : Nat} (ht : t < 6) (h1 : 346 + 2 * t ≤ k) (h2 : k < 346 + 2 * t + 2) : sF SG SH SR SP k = tS (346 + 2 * t) k := by
  unfold sF tS
  rw [if_neg (by omega), if_neg (by omega), if_neg (by omega), if_neg (by omega), if_neg (by omega), if_neg (by omega), if_neg (by omega)]
  funext i
  by_cases h : k = 346 + 2 * t
  · subst h
    simp [show (346 + 2 * t - 346) % 2 = 0 by omega]
  · simp [h, show ¬ (k - 346) % 2 = 0 by omega]
set_option maxHeartbeats 8000000 in
set_option maxRecDepth 100000 in
theorem c_X10_init (hl9 : l.stackTraces = false) (M : jMem) (hM : M (B + 0) = some (.inr (11, [.null, .null, .null, .null, .null, .null, .null, .null, .null, .null]))) {vG vH vR : Int32} {SG SH SR : jS} {SP : Nat → jS} (hG : f_X4_arrange zS 27 6 = some (0, vG, SG)) (hH : f_X4_arrange zS 62 8 = some (0, vH, SH)) (hR : f_X5_forget zS 68 = some (0, vR, SR)) (hP : ∀ p, p < 20 → ∃ v, f_X5_forget zS (82 + 12 * p) = some (0, v, SP p)) :
    jCf l D B t0 yX10_init cX10_init 2 none rm_X10_init [.ref (B + 0)] M (fun n => n = B + 1) (some (0, 0, ())) rvV (fun (_ : Unit) M9 => M9 = memG 0 (0 + 358) D B (sF SG SH SR SP) (jUp M (B + 66) (listC 0 t0 0))) (fun n => n = B + 358) := by
  refine jC_of hl9 (me_X10_init).1 [(0, .ref (B + 0))] ⟨by decide +kernel, Nat.le_of_ble_eq_true rfl⟩ rfl (fun κ hl hD hB hT X htab hin => ?_)
  subst hl hD hB hT
  have X : jX κ RX10 cX10_init 2 none := X
  refine j_size X (fun h' hz hlt hBh => ?_)
  have hz : h' = kB κ + 1 := hz
  subst hz
  refine j_aload_n X 0 rfl dX10_init_0 rfl ?_
  refine j_objInit X ml_X10_3 im_objInit co_objInit dX10_init_1 ⟨Nat.le_of_ble_eq_true rfl, Nat.le_of_ble_eq_true rfl⟩ ?_
  refine j_aload_n X 0 rfl dX10_init_4 rfl ?_
  refine j_new X (bc1 := 399) (bs1 := 3998) cf_X6 cl_X10_9 ⟨it_X6, in_X6⟩ hf_X6 dX10_init_5 (by decide) ?_
  refine j_zle (z1 := fun n => n = kB κ + 2) (fun n9 hn9 => by have hn9 : n9 = _ := hn9; omega) ?_
  refine j_dup X dX10_init_8 rfl ?_
  refine j_eq (o1 := jbin0 (some ((0 : Nat), (0 : Int32), ())) (fun _ _ => some (0, 0, ()))) rfl ?_
  refine j_call0IN X 377 3898 (c_X6_init X.tr _ jUp_eq) me_X6_init mn_X10_11 ii_X6_init dX10_init_9 (rest := [.ref (kB κ + 1), .ref (kB κ + 0)]) rfl rfl (by decide) (by decide) (Nat.le_of_ble_eq_true rfl) (fun v S' M' hM' => ?_)
  subst hM'
  refine j_putF X 0 (hin rfl) cf_X10 (by decide) fl_X10_12 dX10_init_12 rfl rfl rfl rfl (Nat.le_add_right _ _) ((memG_old (by omega)).trans ((jUp_ne (by omega)).trans hM)) (Nat.le_of_ble_eq_true rfl) ?_
  refine j_zle (z1 := fun n => n = kB κ + 24) (fun n9 hn9 => by have hn9 : n9 = _ := hn9; omega) ?_
  refine j_aload_n X 0 rfl dX10_init_15 rfl ?_
  refine j_new X (bc1 := 376) (bs1 := 3891) cf_X0 cl_X10_16 ⟨it_X0, in_X0⟩ hf_X0 dX10_init_16 (by decide) ?_
  refine j_zle (z1 := fun n => n = kB κ + 25) (fun n9 hn9 => by have hn9 : n9 = _ := hn9; omega) ?_
  refine j_dup X dX10_init_19 rfl ?_
  refine j_eq (o1 := jbin0 (some ((0 : Nat), (0 : Int32), ())) (fun _ _ => some (0, 0, ()))) rfl ?_
  refine j_call0I X 316 2491 (c_X0_init X.tr _ jUp_eq hG) me_X0_init ml_X10_18 ii_X0_init dX10_init_20 (rest := [.ref (kB κ + 24), .ref (kB κ + 0)]) rfl rfl (by decide) (by decide) (Nat.le_of_ble_eq_true rfl) (fun v S' M' hM' => ?_)
  subst hM'
  refine j_putF X 1 (hin rfl) cf_X10 (by decide) fl_X10_19 dX10_init_23 rfl rfl rfl rfl (Nat.le_add_right _ _) ((memG_old (by omega)).trans ((jUp_ne (by omega)).trans jUp_eq)) (Nat.le_of_ble_eq_true rfl) ?_
  refine j_zle (z1 := fun n => n = kB κ + 61) (fun n9 hn9 => by have hn9 : n9 = _ := hn9; omega) ?_
  refine j_aload_n X 0 rfl dX10_init_26 rfl ?_
  refine j_bipush X (8 : Int32) dX10_init_27 (by rfl) ?_
  refine j_anew X (N := 8) 6 315 2483 rfl cl_X10_23 ao_X3 (by decide) (by decide) (by decide) dX10_init_29 (by decide) ?_
  refine j_putF X 2 (hin rfl) cf_X10 (by decide) fl_X10_25 dX10_init_32 rfl rfl rfl rfl (Nat.le_add_right _ _) ((jUp_ne (by omega)).trans jUp_eq) (Nat.le_of_ble_eq_true rfl) ?_
  refine j_zle (z1 := fun n => n = kB κ + 62) (fun n9 hn9 => by have hn9 : n9 = _ := hn9; omega) ?_
  refine j_aload_n X 0 rfl dX10_init_35 rfl ?_
  refine j_new X (bc1 := 314) (bs1 := 2481) cf_X4 cl_X10_29 ⟨it_X4, in_X4⟩ hf_X4 dX10_init_36 (by decide) ?_
  refine j_zle (z1 := fun n => n = kB κ + 63) (fun n9 hn9 => by have hn9 : n9 = _ := hn9; omega) ?_
  refine j_dup X dX10_init_39 rfl ?_
  refine j_bipush X (8 : Int32) dX10_init_40 (by rfl) ?_
  refine j_eq (o1 := jbin0 (some ((0 : Nat), (0 : Int32), ())) (fun _ _ => some (0, 0, ()))) rfl ?_
  refine j_call0I X 312 2465 ((c_X4_init X.tr _ 62 8 isGraph_8 (8 : Int32) (by decide) (by decide) (by decide) jUp_eq).known (v := 0) (S := SH) (by rw [hH]; rfl)) me_X4_init ml_X10_31 ii_X4_init dX10_init_42 (rest := [.ref (kB κ + 62), .ref (kB κ + 0)]) rfl rfl (by decide) (by decide) (Nat.le_of_ble_eq_true rfl) (fun v S' M' hM' => ?_)
  subst hM'
  refine j_putF X 3 (hin rfl) cf_X10 (by decide) fl_X10_34 dX10_init_45 rfl rfl rfl rfl (Nat.le_add_right _ _) ((memG_old (by omega)).trans ((jUp_ne (by omega)).trans jUp_eq)) (Nat.le_of_ble_eq_true rfl) ?_
  refine j_zle (z1 := fun n => n = kB κ + 65) (fun n9 hn9 => by have hn9 : n9 = _ := hn9; omega) ?_
  refine j_aload_n X 0 rfl dX10_init_48 rfl ?_
  refine j_bipush X (6 : Int32) dX10_init_49 (by rfl) ?_
  refine j_anew X (N := 6) 7 311 2459 rfl cl_X10_38 ao_X9 (by decide) (by decide) (by decide) dX10_init_51 (by decide) ?_
  refine j_putF X 4 (hin rfl) cf_X10 (by decide) fl_X10_40 dX10_init_54 rfl rfl rfl rfl (Nat.le_add_right _ _) ((jUp_ne (by omega)).trans jUp_eq) (Nat.le_of_ble_eq_true rfl) ?_
  refine j_zle (z1 := fun n => n = kB κ + 66) (fun n9 hn9 => by have hn9 : n9 = _ := hn9; omega) ?_
  refine j_aload_n X 0 rfl dX10_init_57 rfl ?_
  refine j_new X (bc1 := 310) (bs1 := 2456) cf_Jx4a65c cl_X10_44 ⟨it_Jx4a65c, in_Jx4a65c⟩ hf_Jx4a65c dX10_init_58 (by decide) ?_
  refine j_zle (z1 := fun n => n = kB κ + 67) (fun n9 hn9 => by have hn9 : n9 = _ := hn9; omega) ?_
  refine j_dup X dX10_init_61 rfl ?_
  refine j_eq (o1 := jbin0 (some ((0 : Nat), (0 : Int32), ())) (fun _ _ => some (0, 0, ()))) rfl ?_
  refine j_call0I X 310 2456 (c_AL_init X.tr _ _ (kB κ + 66) (Nat.le_add_right _ _) jUp_eq) me_Jx4a65c_init_da8c8 ml_X10_46 ii_Jx4a65c_init_da8c8 dX10_init_62 (rest := [.ref (kB κ + 66), .ref (kB κ + 0)]) rfl rfl (by decide) (by decide) (Nat.le_of_ble_eq_true rfl) (fun v S' M' hM' => ?_)
  subst hM'
  refine j_putF X 5 (hin rfl) cf_X10 (by decide) fl_X10_47 dX10_init_65 rfl rfl rfl rfl (Nat.le_add_right _ _) ((jUp_ne (by omega)).trans ((jUp_ne (by omega)).trans jUp_eq)) (Nat.le_of_ble_eq_true rfl) ?_
  refine j_zle (z1 := fun n => n = kB κ + 67) (fun n9 hn9 => by have hn9 : n9 = _ := hn9; omega) ?_
  refine j_aload_n X 0 rfl dX10_init_68 rfl ?_
  refine j_bipush X (20 : Int32) dX10_init_69 (by rfl) ?_
  refine j_anew X (N := 20) 8 309 2436 rfl cl_X10_51 ao_X5 (by decide) (by decide) (by decide) dX10_init_71 (by decide) ?_
  refine j_putF X 6 (hin rfl) cf_X10 (by decide) fl_X10_53 dX10_init_74 rfl rfl rfl rfl (Nat.le_add_right _ _) ((jUp_ne (by omega)).trans jUp_eq) (Nat.le_of_ble_eq_true rfl) ?_
  refine j_zle (z1 := fun n => n = kB κ + 68) (fun n9 hn9 => by have hn9 : n9 = _ := hn9; omega) ?_
  refine j_aload_n X 0 rfl dX10_init_77 rfl ?_
  refine j_new X (bc1 := 308) (bs1 := 2431) cf_X5 cl_X10_51 ⟨it_X5, in_X5⟩ hf_X5 dX10_init_78 (by decide) ?_
  refine j_zle (z1 := fun n => n = kB κ + 69) (fun n9 hn9 => by have hn9 : n9 = _ := hn9; omega) ?_
  refine j_dup X dX10_init_81 rfl ?_
  refine j_eq (o1 := jbin0 (some ((0 : Nat), (0 : Int32), ())) (fun _ _ => some (0, 0, ()))) rfl ?_
  refine j_call0I X 297 2347 ((c_X5_init X.tr _ 68 isPast_r jUp_eq).known (v := 0) (S := SR) (by rw [hR]; rfl)) me_X5_init ml_X10_57 ii_X5_init dX10_init_82 (rest := [.ref (kB κ + 68), .ref (kB κ + 0)]) rfl rfl (by decide) (by decide) (Nat.le_of_ble_eq_true rfl) (fun v S' M' hM' => ?_)
  subst hM'
  refine j_putF X 7 (hin rfl) cf_X10 (by decide) fl_X10_58 dX10_init_85 rfl rfl rfl rfl (Nat.le_add_right _ _) ((memG_old (by omega)).trans ((jUp_ne (by omega)).trans jUp_eq)) (Nat.le_of_ble_eq_true rfl) ?_
  refine j_zle (z1 := fun n => n = kB κ + 80) (fun n9 hn9 => by have hn9 : n9 = _ := hn9; omega) ?_
  refine j_aload_n X 0 rfl dX10_init_88 rfl ?_
  refine j_bipush X (8 : Int32) dX10_init_89 (by rfl) ?_
  refine j_newI X (N := 8) 296 2339 (by decide) (by decide) (by decide) aw_int dX10_init_91 (by decide) ?_
  refine j_putF X 8 (hin rfl) cf_X10 (by decide) fl_X10_62 dX10_init_93 rfl rfl rfl rfl (Nat.le_add_right _ _) ((jUp_ne (by omega)).trans jUp_eq) (Nat.le_of_ble_eq_true rfl) ?_
  refine j_zle (z1 := fun n => n = kB κ + 81) (fun n9 hn9 => by have hn9 : n9 = _ := hn9; omega) ?_
  refine j_aload_n X 0 rfl dX10_init_96 rfl ?_
  refine j_bipush X (8 : Int32) dX10_init_97 (by rfl) ?_
  refine j_newI X (N := 8) 295 2331 (by decide) (by decide) (by decide) aw_int dX10_init_99 (by decide) ?_
  refine j_putF X 9 (hin rfl) cf_X10 (by decide) fl_X10_66 dX10_init_101 rfl rfl rfl rfl (Nat.le_add_right _ _) ((jUp_ne (by omega)).trans jUp_eq) (Nat.le_of_ble_eq_true rfl) ?_
  refine j_zle (z1 := fun n => n = kB κ + (82 + 12 * 0)) (fun n9 hn9 => by have hn9 : n9 = _ := hn9; omega) ?_
  refine j_iconst X (0 : Int32) dX10_init_104 (by rfl) ?_
  refine j_istore_n X [(1, .int (Int32.ofNat 0)), (0, .ref (kB κ + 0))] dX10_init_105 rfl (by decide) rfl ?_
  refine j_lv [1, 0] rfl ?_
  refine j_bud (bc1 := 12 * 20 + 36) (bs1 := 89 * 20 + 152) (by decide) (by decide) ?_
  refine c_X10_pasts (SF := sF SG SH SR SP) (M := M) hP (fun p hp k g1 g2 => sF_p hp g1 g2) X 36 152 20 0 rfl _ ⟨?_, ?_, ?_, ?_, ?_, ?_, ?_, ?_, ?_, ?_, ?_, fun a ha => ?_⟩ _ _ rfl rfl (fun Mx hF => ?_)
  · refine KN.join (mid := 24) (KN.eq (S := zS) (fun k g1 g2 g3 => ?_) (fun k g1 g2 => (sF_z (Or.inl g2)).symm)) (KN.eq (S := sA SG) (fun k g1 g2 g3 => ?_) (fun k g1 g2 => (sF_a g1 g2).symm))
    · (repeat (first | refine (jUp_ne (by omega)).trans ?_ | refine (memG_old (by omega)).trans ?_))
      exact KN.of k (by omega) (by omega) g3
    · (repeat (first | refine (jUp_ne (by omega)).trans ?_ | refine (memG_old (by omega)).trans ?_))
      exact KN.of k (by omega) (by omega) g3
  · refine KN.eq (S := SH) (fun k g1 g2 g3 => ?_) (fun k g1 g2 => (sF_h (by omega) g2).symm)
    (repeat (first | refine (jUp_ne (by omega)).trans ?_ | refine (memG_old (by omega)).trans ?_))
    exact KN.of k (by omega) (by omega) g3
  · refine KN.join (mid := 80) (KN.eq (S := SR) (fun k g1 g2 g3 => ?_) (fun k g1 g2 => (sF_r (by omega) g2).symm)) (KN.join (mid := 81) (KN.one (e := .inl ((kD κ).1 20, 8, .inl (fun _ => 0))) ?_ ?_) (KN.one (e := .inl ((kD κ).1 20, 8, .inl (fun _ => 0))) ?_ ?_))
    · (repeat (first | refine (jUp_ne (by omega)).trans ?_ | refine (memG_old (by omega)).trans ?_))
      exact KN.of k (by omega) (by omega) g3
    · (repeat (first | exact jUp_at (by omega) | refine (jUp_ne (by omega)).trans ?_ | refine (memG_old (by omega)).trans ?_))
    · rw [show kd 80 = 1008 from by decide +kernel, sF_z (by omega)]
      exact cellK_i (n := 8) (by decide) _
    · (repeat (first | exact jUp_at (by omega) | refine (jUp_ne (by omega)).trans ?_ | refine (memG_old (by omega)).trans ?_))
    · rw [show kd 81 = 1008 from by decide +kernel, sF_z (by omega)]
      exact cellK_i (n := 8) (by decide) _
  · exact fun k g1 g2 g3 => by omega
  · exact fun k g1 g2 g3 => by omega
  · exact fun k g1 g2 g3 => by omega
  · exact jUp_eq
  · (repeat (first | exact jUp_at (by omega) | refine (jUp_ne (by omega)).trans ?_ | refine (memG_old (by omega)).trans ?_))
  · (repeat (first | exact jUp_at (by omega) | refine (jUp_ne (by omega)).trans ?_ | refine (memG_old (by omega)).trans ?_))
  · (repeat (first | exact jUp_at (by omega) | refine (jUp_ne (by omega)).trans ?_ | refine (memG_old (by omega)).trans ?_))
  · (repeat (first | exact jUp_at (by omega) | refine (jUp_ne (by omega)).trans ?_ | refine (memG_old (by omega)).trans ?_))
  · (repeat (first | refine (jUp_ne (by omega)).trans ?_ | refine (memG_old (by omega)).trans ?_))
    rfl
  · refine j_iconst X (0 : Int32) dX10_init_131 (by rfl) ?_
    refine j_istore_n X [(1, .int (Int32.ofNat 0)), (0, .ref (kB κ + 0))] dX10_init_132 rfl (by decide) rfl ?_
    refine j_lv [1, 0] rfl ?_
    refine c_X10_flags (SF := sF SG SH SR SP) (M := M) (fun k g1 g2 => sF_z (Or.inr (Or.inr ⟨g1, g2⟩))) X 12 48 8 0 rfl _ hF _ _ rfl rfl (fun Mx hF => ?_)
    refine j_iconst X (0 : Int32) dX10_init_158 (by rfl) ?_
    refine j_istore_n X [(1, .int (Int32.ofNat 0)), (0, .ref (kB κ + 0))] dX10_init_159 rfl (by decide) rfl ?_
    refine j_lv [1, 0] rfl ?_
    refine c_X10_trials (SF := sF SG SH SR SP) (M := M) (fun t ht k g1 g2 => sF_t ht g1 g2) X 0 0 6 0 rfl _ hF _ _ rfl rfl (fun Mx hF => ?_)
    obtain ⟨i1, i2, i3, i4, i5, i6, j0, j1, j2, j3, j4, j5⟩ := hF
    refine j_memE (M1 := memG 0 (0 + 358) (kD κ) (kB κ) (sF SG SH SR SP) (jUp M (kB κ + 66) (listC 0 (kT κ) 0))) (mem_cells (fun j hj hk => ?_) (fun a e he ho => ⟨e, ?_, Or.inl rfl⟩)) ?_
    · have hk' : kd j ≠ 0 := by rw [Nat.zero_add] at hk; exact hk
      rw [Nat.zero_add]
      by_cases g0 : j = 0
      · subst g0
        exact ⟨_, j0, Or.inl (by rw [show kd 0 = 1 from by decide +kernel]; rfl)⟩
      by_cases g1 : j = 61
      · subst g1
        exact ⟨_, j1, Or.inr (by rw [show kd 61 = 14 from by decide +kernel]; exact ⟨_, _, _, _, rfl, rfl, fun i hi => by rw [if_pos hi]⟩)⟩
      by_cases g2 : j = 65
      · subst g2
        exact ⟨_, j2, Or.inr (by rw [show kd 65 = 15 from by decide +kernel]; exact ⟨_, _, _, _, rfl, rfl, fun i hi => by rw [if_pos hi]⟩)⟩
      by_cases g3 : j = 66
      · subst g3
        exact absurd (by decide +kernel) hk'
      by_cases g4 : j = 67
      · subst g4
        exact ⟨_, j4, Or.inr (by rw [show kd 67 = 16 from by decide +kernel]; exact ⟨_, _, _, _, rfl, rfl, fun i hi => by rw [if_pos hi]⟩)⟩
      refine ⟨_, ?_, Or.inl rfl⟩
      by_cases q1 : j < 61
      · exact i1 j (by omega) q1 hk'
      by_cases q2 : j < 65
      · exact i2 j (by omega) q2 hk'
      by_cases q3 : j < 82
      · exact i3 j (by omega) q3 hk'
      by_cases q4 : j < 322
      · exact i4 j (by omega) (by omega) hk'
      by_cases q5 : j < 346
      · exact i5 j (by omega) (by omega) hk'
      · exact i6 j (by omega) (by omega) hk'
    · by_cases ha : a = kB κ + 66
      · subst ha
        rw [jUp_eq] at he
        exact j3.trans he
      · rw [jUp_ne ha] at he
        have hq := hlt a e he
        rcases Nat.lt_or_ge a (kB κ) with q | q
        · exact (j5 a q).trans he
        · have ha0 : a = kB κ := by omega
          subst ha0
          rcases ho with h | h | h
          · omega
          · omega
          · rw [Nat.sub_self] at h
            exact absurd h (by decide +kernel)
    · exact j_vret X dX10_init_185 rfl (fun _ h => h)
end CTH
