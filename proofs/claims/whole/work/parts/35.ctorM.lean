section CTM
theorem jLe_start {D : va_G} {B lo s : Nat} {S : jS} {M : jMem} {e : va_E} (h : M s = some e) : jLe (jUp (memG lo (lo + 0) D B S M) s e) M := by
  intro a e' he
  by_cases ha : a = s
  · subst ha
    rw [jUp_eq] at he
    exact h.trans he
  · rw [jUp_ne ha] at he
    unfold memG at he
    rw [if_neg (by omega)] at he
    exact he
theorem jLe_step {D : va_G} {B lo w s : Nat} {S : jS} {M : jMem} {e o1 o2 o2' : va_E} (hs : s < B + lo) (hk : kd (lo + w) ≠ 0) (hc : cellK D B (lo + w) (kd (lo + w)) (S (lo + w)) = e) (ho : o2' = o2) : jLe (jUp (memG lo (lo + (w + 1)) D B S M) s o2) (jUp (jUp (jUp (memG lo (lo + w) D B S M) s o1) (B + (lo + w)) e) s o2') := by
  subst ho
  intro a e' he
  by_cases ha : a = s
  · subst ha
    rw [jUp_eq] at he ⊢
    exact he
  · rw [jUp_ne ha] at he ⊢
    by_cases h2 : a = B + (lo + w)
    · subst h2
      unfold memG at he
      rw [Nat.add_sub_cancel_left, if_pos ⟨by omega, by omega, hk⟩, hc] at he
      rw [jUp_eq]
      exact he
    · rw [jUp_ne h2, jUp_ne ha]
      unfold memG at he ⊢
      by_cases h3 : B + lo ≤ a ∧ a < B + (lo + w) ∧ kd (a - B) ≠ 0
      · rw [if_pos h3]
        rw [if_pos ⟨h3.1, by omega, h3.2.2⟩] at he
        exact he
      · rw [if_neg h3]
        rw [if_neg (fun h => h3 ⟨h.1, by omega, h.2.2⟩)] at he
        exact he
theorem jLe_end {D : va_G} {B lo w : Nat} {S : jS} {M : jMem} {o : va_E} (hk : kd lo ≠ 0) (hc : cellK D B lo (kd lo) (S lo) = o) : jLe (memG lo (lo + (w + 1)) D B S M) (jUp (memG (lo + 1) (lo + 1 + w) D B S M) (B + lo) o) := by
  intro a e' he
  by_cases ha : a = B + lo
  · subst ha
    unfold memG at he
    rw [Nat.add_sub_cancel_left, if_pos ⟨by omega, by omega, hk⟩, hc] at he
    rw [jUp_eq]
    exact he
  · rw [jUp_ne ha]
    unfold memG at he ⊢
    by_cases h3 : B + (lo + 1) ≤ a ∧ a < B + (lo + 1 + w) ∧ kd (a - B) ≠ 0
    · rw [if_pos h3]
      rw [if_pos ⟨by omega, by omega, h3.2.2⟩] at he
      exact he
    · rw [if_neg h3]
      rw [if_neg (fun h => h3 ⟨by omega, by omega, h.2.2⟩)] at he
      exact he
abbrev rm_X11_init : Room := { frames := 1, cells := 28, slots := 2938, locals := 16 }
set_option maxHeartbeats 8000000 in
set_option maxRecDepth 100000 in
theorem c_X11_init {l : Launch} {D : va_G} {B t0 : Nat} (hl9 : l.stackTraces = false) (M : jMem) (hM : M (B + 358) = some (.inr (12, [.int 0, .null, .null, .null, .null, .null, .null, .null, .int 0, .null, .null, .null, .null, .null, .null, .null, .null, .null, .null, .null, .null, .null, .null, .null, .null, .null, .null, .null, .null, .null, .int 0]))) : jCf l D B t0 yX11_init cX11_init 1 none rm_X11_init [.ref (B + 358)] M (fun n => n = B + (359 + 0)) (some (0, 0, ())) rvV (fun (_ : Unit) M9 => M9 = memG 358 (358 + (28 + 1)) D B zS M) (fun n => n = B + (359 + 28)) := by
  refine jC_of hl9 (me_X11_init).1 [(0, .ref (B + 358))] ⟨by decide +kernel, Nat.le_of_ble_eq_true rfl⟩ rfl (fun κ hl hD hB hT X htab hin => ?_)
  subst hl hD hB hT
  have X : jX κ RX11 cX11_init 1 none := X
  refine j_aload_n X 0 rfl dX11_init_0 rfl ?_
  refine j_objInit X ml_X11_1 im_objInit co_objInit dX11_init_1 ⟨Nat.le_of_ble_eq_true rfl, Nat.le_of_ble_eq_true rfl⟩ ?_
  refine j_mem (jLe_start (D := kD κ) (B := kB κ) (lo := 359) (S := zS) hM) ?_
  refine j_aload_n X 0 rfl dX11_init_4 rfl ?_
  refine j_bipush X (60 : Int32) dX11_init_5 (by rfl) ?_
  refine j_newI X (N := 60) 27 2878 (by decide) (by decide) (by decide) aw_int dX11_init_7 ⟨Nat.le_of_ble_eq_true rfl, Nat.le_of_ble_eq_true rfl⟩ ?_
  refine j_putF X 1 (hin rfl) cf_X11 (by decide) fl_X11_7 dX11_init_9 rfl rfl rfl rfl (Nat.le_add_right _ _) ((jUp_ne (by omega)).trans jUp_eq) (Nat.le_of_ble_eq_true rfl) ?_
  refine j_zle (z1 := fun n => n = kB κ + (359 + 1)) (fun n9 hn9 => by have hn9 : n9 = _ := hn9; omega) ?_
  refine j_mem (jLe_step (o2 := .inr (12, [.int 0, .ref (kB κ + 359), .null, .null, .null, .null, .null, .null, .int 0, .null, .null, .null, .null, .null, .null, .null, .null, .null, .null, .null, .null, .null, .null, .null, .null, .null, .null, .null, .null, .null, .int 0])) (by omega) (show kd (359 + 0) ≠ 0 from by decide +kernel) (by rw [show kd (359 + 0) = 1060 from by decide +kernel]; exact cellK_i (n := 60) (by decide) _) rfl) ?_
  refine j_aload_n X 0 rfl dX11_init_12 rfl ?_
  refine j_bipush X (20 : Int32) dX11_init_13 (by rfl) ?_
  refine j_newI X (N := 20) 26 2858 (by decide) (by decide) (by decide) aw_int dX11_init_15 ⟨Nat.le_of_ble_eq_true rfl, Nat.le_of_ble_eq_true rfl⟩ ?_
  refine j_putF X 2 (hin rfl) cf_X11 (by decide) fl_X11_13 dX11_init_17 rfl rfl rfl rfl (Nat.le_add_right _ _) ((jUp_ne (by omega)).trans jUp_eq) (Nat.le_of_ble_eq_true rfl) ?_
  refine j_zle (z1 := fun n => n = kB κ + (359 + 2)) (fun n9 hn9 => by have hn9 : n9 = _ := hn9; omega) ?_
  refine j_mem (jLe_step (o2 := .inr (12, [.int 0, .ref (kB κ + 359), .ref (kB κ + 360), .null, .null, .null, .null, .null, .int 0, .null, .null, .null, .null, .null, .null, .null, .null, .null, .null, .null, .null, .null, .null, .null, .null, .null, .null, .null, .null, .null, .int 0])) (by omega) (show kd (359 + 1) ≠ 0 from by decide +kernel) (by rw [show kd (359 + 1) = 1020 from by decide +kernel]; exact cellK_i (n := 20) (by decide) _) rfl) ?_
  refine j_aload_n X 0 rfl dX11_init_20 rfl ?_
  refine j_sipush X (360 : Int32) dX11_init_21 (by rfl) ?_
  refine j_newI X (N := 360) 25 2498 (by decide) (by decide) (by decide) aw_int dX11_init_24 ⟨Nat.le_of_ble_eq_true rfl, Nat.le_of_ble_eq_true rfl⟩ ?_
  refine j_putF X 3 (hin rfl) cf_X11 (by decide) fl_X11_16 dX11_init_26 rfl rfl rfl rfl (Nat.le_add_right _ _) ((jUp_ne (by omega)).trans jUp_eq) (Nat.le_of_ble_eq_true rfl) ?_
  refine j_zle (z1 := fun n => n = kB κ + (359 + 3)) (fun n9 hn9 => by have hn9 : n9 = _ := hn9; omega) ?_
  refine j_mem (jLe_step (o2 := .inr (12, [.int 0, .ref (kB κ + 359), .ref (kB κ + 360), .ref (kB κ + 361), .null, .null, .null, .null, .int 0, .null, .null, .null, .null, .null, .null, .null, .null, .null, .null, .null, .null, .null, .null, .null, .null, .null, .null, .null, .null, .null, .int 0])) (by omega) (show kd (359 + 2) ≠ 0 from by decide +kernel) (by rw [show kd (359 + 2) = 1360 from by decide +kernel]; exact cellK_i (n := 360) (by decide) _) rfl) ?_
  refine j_aload_n X 0 rfl dX11_init_29 rfl ?_
  refine j_bipush X (6 : Int32) dX11_init_30 (by rfl) ?_
  refine j_newI X (N := 6) 24 2492 (by decide) (by decide) (by decide) aw_int dX11_init_32 ⟨Nat.le_of_ble_eq_true rfl, Nat.le_of_ble_eq_true rfl⟩ ?_
  refine j_putF X 4 (hin rfl) cf_X11 (by decide) fl_X11_19 dX11_init_34 rfl rfl rfl rfl (Nat.le_add_right _ _) ((jUp_ne (by omega)).trans jUp_eq) (Nat.le_of_ble_eq_true rfl) ?_
  refine j_zle (z1 := fun n => n = kB κ + (359 + 4)) (fun n9 hn9 => by have hn9 : n9 = _ := hn9; omega) ?_
  refine j_mem (jLe_step (o2 := .inr (12, [.int 0, .ref (kB κ + 359), .ref (kB κ + 360), .ref (kB κ + 361), .ref (kB κ + 362), .null, .null, .null, .int 0, .null, .null, .null, .null, .null, .null, .null, .null, .null, .null, .null, .null, .null, .null, .null, .null, .null, .null, .null, .null, .null, .int 0])) (by omega) (show kd (359 + 3) ≠ 0 from by decide +kernel) (by rw [show kd (359 + 3) = 1006 from by decide +kernel]; exact cellK_i (n := 6) (by decide) _) rfl) ?_
  refine j_aload_n X 0 rfl dX11_init_37 rfl ?_
  refine j_sipush X (360 : Int32) dX11_init_38 (by rfl) ?_
  refine j_newI X (N := 360) 23 2132 (by decide) (by decide) (by decide) aw_int dX11_init_41 ⟨Nat.le_of_ble_eq_true rfl, Nat.le_of_ble_eq_true rfl⟩ ?_
  refine j_putF X 5 (hin rfl) cf_X11 (by decide) fl_X11_22 dX11_init_43 rfl rfl rfl rfl (Nat.le_add_right _ _) ((jUp_ne (by omega)).trans jUp_eq) (Nat.le_of_ble_eq_true rfl) ?_
  refine j_zle (z1 := fun n => n = kB κ + (359 + 5)) (fun n9 hn9 => by have hn9 : n9 = _ := hn9; omega) ?_
  refine j_mem (jLe_step (o2 := .inr (12, [.int 0, .ref (kB κ + 359), .ref (kB κ + 360), .ref (kB κ + 361), .ref (kB κ + 362), .ref (kB κ + 363), .null, .null, .int 0, .null, .null, .null, .null, .null, .null, .null, .null, .null, .null, .null, .null, .null, .null, .null, .null, .null, .null, .null, .null, .null, .int 0])) (by omega) (show kd (359 + 4) ≠ 0 from by decide +kernel) (by rw [show kd (359 + 4) = 1360 from by decide +kernel]; exact cellK_i (n := 360) (by decide) _) rfl) ?_
  refine j_aload_n X 0 rfl dX11_init_46 rfl ?_
  refine j_bipush X (6 : Int32) dX11_init_47 (by rfl) ?_
  refine j_newI X (N := 6) 22 2126 (by decide) (by decide) (by decide) aw_int dX11_init_49 ⟨Nat.le_of_ble_eq_true rfl, Nat.le_of_ble_eq_true rfl⟩ ?_
  refine j_putF X 6 (hin rfl) cf_X11 (by decide) fl_X11_25 dX11_init_51 rfl rfl rfl rfl (Nat.le_add_right _ _) ((jUp_ne (by omega)).trans jUp_eq) (Nat.le_of_ble_eq_true rfl) ?_
  refine j_zle (z1 := fun n => n = kB κ + (359 + 6)) (fun n9 hn9 => by have hn9 : n9 = _ := hn9; omega) ?_
  refine j_mem (jLe_step (o2 := .inr (12, [.int 0, .ref (kB κ + 359), .ref (kB κ + 360), .ref (kB κ + 361), .ref (kB κ + 362), .ref (kB κ + 363), .ref (kB κ + 364), .null, .int 0, .null, .null, .null, .null, .null, .null, .null, .null, .null, .null, .null, .null, .null, .null, .null, .null, .null, .null, .null, .null, .null, .int 0])) (by omega) (show kd (359 + 5) ≠ 0 from by decide +kernel) (by rw [show kd (359 + 5) = 1006 from by decide +kernel]; exact cellK_i (n := 6) (by decide) _) rfl) ?_
  refine j_aload_n X 0 rfl dX11_init_54 rfl ?_
  refine j_bipush X (60 : Int32) dX11_init_55 (by rfl) ?_
  refine j_newI X (N := 60) 21 2066 (by decide) (by decide) (by decide) aw_int dX11_init_57 ⟨Nat.le_of_ble_eq_true rfl, Nat.le_of_ble_eq_true rfl⟩ ?_
  refine j_putF X 7 (hin rfl) cf_X11 (by decide) fl_X11_28 dX11_init_59 rfl rfl rfl rfl (Nat.le_add_right _ _) ((jUp_ne (by omega)).trans jUp_eq) (Nat.le_of_ble_eq_true rfl) ?_
  refine j_zle (z1 := fun n => n = kB κ + (359 + 7)) (fun n9 hn9 => by have hn9 : n9 = _ := hn9; omega) ?_
  refine j_mem (jLe_step (o2 := .inr (12, [.int 0, .ref (kB κ + 359), .ref (kB κ + 360), .ref (kB κ + 361), .ref (kB κ + 362), .ref (kB κ + 363), .ref (kB κ + 364), .ref (kB κ + 365), .int 0, .null, .null, .null, .null, .null, .null, .null, .null, .null, .null, .null, .null, .null, .null, .null, .null, .null, .null, .null, .null, .null, .int 0])) (by omega) (show kd (359 + 6) ≠ 0 from by decide +kernel) (by rw [show kd (359 + 6) = 1060 from by decide +kernel]; exact cellK_i (n := 60) (by decide) _) rfl) ?_
  refine j_aload_n X 0 rfl dX11_init_62 rfl ?_
  refine j_bipush X (6 : Int32) dX11_init_63 (by rfl) ?_
  refine j_newI X (N := 6) 20 2060 (by decide) (by decide) (by decide) aw_int dX11_init_65 ⟨Nat.le_of_ble_eq_true rfl, Nat.le_of_ble_eq_true rfl⟩ ?_
  refine j_putF X 9 (hin rfl) cf_X11 (by decide) fl_X11_31 dX11_init_67 rfl rfl rfl rfl (Nat.le_add_right _ _) ((jUp_ne (by omega)).trans jUp_eq) (Nat.le_of_ble_eq_true rfl) ?_
  refine j_zle (z1 := fun n => n = kB κ + (359 + 8)) (fun n9 hn9 => by have hn9 : n9 = _ := hn9; omega) ?_
  refine j_mem (jLe_step (o2 := .inr (12, [.int 0, .ref (kB κ + 359), .ref (kB κ + 360), .ref (kB κ + 361), .ref (kB κ + 362), .ref (kB κ + 363), .ref (kB κ + 364), .ref (kB κ + 365), .int 0, .ref (kB κ + 366), .null, .null, .null, .null, .null, .null, .null, .null, .null, .null, .null, .null, .null, .null, .null, .null, .null, .null, .null, .null, .int 0])) (by omega) (show kd (359 + 7) ≠ 0 from by decide +kernel) (by rw [show kd (359 + 7) = 1006 from by decide +kernel]; exact cellK_i (n := 6) (by decide) _) rfl) ?_
  refine j_aload_n X 0 rfl dX11_init_70 rfl ?_
  refine j_bipush X (6 : Int32) dX11_init_71 (by rfl) ?_
  refine j_newI X (N := 6) 19 2054 (by decide) (by decide) (by decide) aw_int dX11_init_73 ⟨Nat.le_of_ble_eq_true rfl, Nat.le_of_ble_eq_true rfl⟩ ?_
  refine j_putF X 10 (hin rfl) cf_X11 (by decide) fl_X11_34 dX11_init_75 rfl rfl rfl rfl (Nat.le_add_right _ _) ((jUp_ne (by omega)).trans jUp_eq) (Nat.le_of_ble_eq_true rfl) ?_
  refine j_zle (z1 := fun n => n = kB κ + (359 + 9)) (fun n9 hn9 => by have hn9 : n9 = _ := hn9; omega) ?_
  refine j_mem (jLe_step (o2 := .inr (12, [.int 0, .ref (kB κ + 359), .ref (kB κ + 360), .ref (kB κ + 361), .ref (kB κ + 362), .ref (kB κ + 363), .ref (kB κ + 364), .ref (kB κ + 365), .int 0, .ref (kB κ + 366), .ref (kB κ + 367), .null, .null, .null, .null, .null, .null, .null, .null, .null, .null, .null, .null, .null, .null, .null, .null, .null, .null, .null, .int 0])) (by omega) (show kd (359 + 8) ≠ 0 from by decide +kernel) (by rw [show kd (359 + 8) = 1006 from by decide +kernel]; exact cellK_i (n := 6) (by decide) _) rfl) ?_
  refine j_aload_n X 0 rfl dX11_init_78 rfl ?_
  refine j_bipush X (6 : Int32) dX11_init_79 (by rfl) ?_
  refine j_newI X (N := 6) 18 2048 (by decide) (by decide) (by decide) aw_int dX11_init_81 ⟨Nat.le_of_ble_eq_true rfl, Nat.le_of_ble_eq_true rfl⟩ ?_
  refine j_putF X 11 (hin rfl) cf_X11 (by decide) fl_X11_37 dX11_init_83 rfl rfl rfl rfl (Nat.le_add_right _ _) ((jUp_ne (by omega)).trans jUp_eq) (Nat.le_of_ble_eq_true rfl) ?_
  refine j_zle (z1 := fun n => n = kB κ + (359 + 10)) (fun n9 hn9 => by have hn9 : n9 = _ := hn9; omega) ?_
  refine j_mem (jLe_step (o2 := .inr (12, [.int 0, .ref (kB κ + 359), .ref (kB κ + 360), .ref (kB κ + 361), .ref (kB κ + 362), .ref (kB κ + 363), .ref (kB κ + 364), .ref (kB κ + 365), .int 0, .ref (kB κ + 366), .ref (kB κ + 367), .ref (kB κ + 368), .null, .null, .null, .null, .null, .null, .null, .null, .null, .null, .null, .null, .null, .null, .null, .null, .null, .null, .int 0])) (by omega) (show kd (359 + 9) ≠ 0 from by decide +kernel) (by rw [show kd (359 + 9) = 1006 from by decide +kernel]; exact cellK_i (n := 6) (by decide) _) rfl) ?_
  refine j_aload_n X 0 rfl dX11_init_86 rfl ?_
  refine j_bipush X (10 : Int32) dX11_init_87 (by rfl) ?_
  refine j_newZ X (N := 10) 17 2038 (by decide) (by decide) (by decide) aw_bool dX11_init_89 ⟨Nat.le_of_ble_eq_true rfl, Nat.le_of_ble_eq_true rfl⟩ ?_
  refine j_putF X 12 (hin rfl) cf_X11 (by decide) fl_X11_40 dX11_init_91 rfl rfl rfl rfl (Nat.le_add_right _ _) ((jUp_ne (by omega)).trans jUp_eq) (Nat.le_of_ble_eq_true rfl) ?_
  refine j_zle (z1 := fun n => n = kB κ + (359 + 11)) (fun n9 hn9 => by have hn9 : n9 = _ := hn9; omega) ?_
  refine j_mem (jLe_step (o2 := .inr (12, [.int 0, .ref (kB κ + 359), .ref (kB κ + 360), .ref (kB κ + 361), .ref (kB κ + 362), .ref (kB κ + 363), .ref (kB κ + 364), .ref (kB κ + 365), .int 0, .ref (kB κ + 366), .ref (kB κ + 367), .ref (kB κ + 368), .ref (kB κ + 369), .null, .null, .null, .null, .null, .null, .null, .null, .null, .null, .null, .null, .null, .null, .null, .null, .null, .int 0])) (by omega) (show kd (359 + 10) ≠ 0 from by decide +kernel) (by rw [show kd (359 + 10) = 3010 from by decide +kernel]; exact cellK_z (n := 10) (by decide) _) rfl) ?_
  refine j_aload_n X 0 rfl dX11_init_94 rfl ?_
  refine j_bipush X (10 : Int32) dX11_init_95 (by rfl) ?_
  refine j_newZ X (N := 10) 16 2028 (by decide) (by decide) (by decide) aw_bool dX11_init_97 ⟨Nat.le_of_ble_eq_true rfl, Nat.le_of_ble_eq_true rfl⟩ ?_
  refine j_putF X 13 (hin rfl) cf_X11 (by decide) fl_X11_44 dX11_init_99 rfl rfl rfl rfl (Nat.le_add_right _ _) ((jUp_ne (by omega)).trans jUp_eq) (Nat.le_of_ble_eq_true rfl) ?_
  refine j_zle (z1 := fun n => n = kB κ + (359 + 12)) (fun n9 hn9 => by have hn9 : n9 = _ := hn9; omega) ?_
  refine j_mem (jLe_step (o2 := .inr (12, [.int 0, .ref (kB κ + 359), .ref (kB κ + 360), .ref (kB κ + 361), .ref (kB κ + 362), .ref (kB κ + 363), .ref (kB κ + 364), .ref (kB κ + 365), .int 0, .ref (kB κ + 366), .ref (kB κ + 367), .ref (kB κ + 368), .ref (kB κ + 369), .ref (kB κ + 370), .null, .null, .null, .null, .null, .null, .null, .null, .null, .null, .null, .null, .null, .null, .null, .null, .int 0])) (by omega) (show kd (359 + 11) ≠ 0 from by decide +kernel) (by rw [show kd (359 + 11) = 3010 from by decide +kernel]; exact cellK_z (n := 10) (by decide) _) rfl) ?_
  refine j_aload_n X 0 rfl dX11_init_102 rfl ?_
  refine j_bipush X (10 : Int32) dX11_init_103 (by rfl) ?_
  refine j_newZ X (N := 10) 15 2018 (by decide) (by decide) (by decide) aw_bool dX11_init_105 ⟨Nat.le_of_ble_eq_true rfl, Nat.le_of_ble_eq_true rfl⟩ ?_
  refine j_putF X 14 (hin rfl) cf_X11 (by decide) fl_X11_47 dX11_init_107 rfl rfl rfl rfl (Nat.le_add_right _ _) ((jUp_ne (by omega)).trans jUp_eq) (Nat.le_of_ble_eq_true rfl) ?_
  refine j_zle (z1 := fun n => n = kB κ + (359 + 13)) (fun n9 hn9 => by have hn9 : n9 = _ := hn9; omega) ?_
  refine j_mem (jLe_step (o2 := .inr (12, [.int 0, .ref (kB κ + 359), .ref (kB κ + 360), .ref (kB κ + 361), .ref (kB κ + 362), .ref (kB κ + 363), .ref (kB κ + 364), .ref (kB κ + 365), .int 0, .ref (kB κ + 366), .ref (kB κ + 367), .ref (kB κ + 368), .ref (kB κ + 369), .ref (kB κ + 370), .ref (kB κ + 371), .null, .null, .null, .null, .null, .null, .null, .null, .null, .null, .null, .null, .null, .null, .null, .int 0])) (by omega) (show kd (359 + 12) ≠ 0 from by decide +kernel) (by rw [show kd (359 + 12) = 3010 from by decide +kernel]; exact cellK_z (n := 10) (by decide) _) rfl) ?_
  refine j_aload_n X 0 rfl dX11_init_110 rfl ?_
  refine j_bipush X (8 : Int32) dX11_init_111 (by rfl) ?_
  refine j_newI X (N := 8) 14 2010 (by decide) (by decide) (by decide) aw_int dX11_init_113 ⟨Nat.le_of_ble_eq_true rfl, Nat.le_of_ble_eq_true rfl⟩ ?_
  refine j_putF X 15 (hin rfl) cf_X11 (by decide) fl_X11_50 dX11_init_115 rfl rfl rfl rfl (Nat.le_add_right _ _) ((jUp_ne (by omega)).trans jUp_eq) (Nat.le_of_ble_eq_true rfl) ?_
  refine j_zle (z1 := fun n => n = kB κ + (359 + 14)) (fun n9 hn9 => by have hn9 : n9 = _ := hn9; omega) ?_
  refine j_mem (jLe_step (o2 := .inr (12, [.int 0, .ref (kB κ + 359), .ref (kB κ + 360), .ref (kB κ + 361), .ref (kB κ + 362), .ref (kB κ + 363), .ref (kB κ + 364), .ref (kB κ + 365), .int 0, .ref (kB κ + 366), .ref (kB κ + 367), .ref (kB κ + 368), .ref (kB κ + 369), .ref (kB κ + 370), .ref (kB κ + 371), .ref (kB κ + 372), .null, .null, .null, .null, .null, .null, .null, .null, .null, .null, .null, .null, .null, .null, .int 0])) (by omega) (show kd (359 + 13) ≠ 0 from by decide +kernel) (by rw [show kd (359 + 13) = 1008 from by decide +kernel]; exact cellK_i (n := 8) (by decide) _) rfl) ?_
  refine j_aload_n X 0 rfl dX11_init_118 rfl ?_
  refine j_bipush X (40 : Int32) dX11_init_119 (by rfl) ?_
  refine j_newI X (N := 40) 13 1970 (by decide) (by decide) (by decide) aw_int dX11_init_121 ⟨Nat.le_of_ble_eq_true rfl, Nat.le_of_ble_eq_true rfl⟩ ?_
  refine j_putF X 16 (hin rfl) cf_X11 (by decide) fl_X11_53 dX11_init_123 rfl rfl rfl rfl (Nat.le_add_right _ _) ((jUp_ne (by omega)).trans jUp_eq) (Nat.le_of_ble_eq_true rfl) ?_
  refine j_zle (z1 := fun n => n = kB κ + (359 + 15)) (fun n9 hn9 => by have hn9 : n9 = _ := hn9; omega) ?_
  refine j_mem (jLe_step (o2 := .inr (12, [.int 0, .ref (kB κ + 359), .ref (kB κ + 360), .ref (kB κ + 361), .ref (kB κ + 362), .ref (kB κ + 363), .ref (kB κ + 364), .ref (kB κ + 365), .int 0, .ref (kB κ + 366), .ref (kB κ + 367), .ref (kB κ + 368), .ref (kB κ + 369), .ref (kB κ + 370), .ref (kB κ + 371), .ref (kB κ + 372), .ref (kB κ + 373), .null, .null, .null, .null, .null, .null, .null, .null, .null, .null, .null, .null, .null, .int 0])) (by omega) (show kd (359 + 14) ≠ 0 from by decide +kernel) (by rw [show kd (359 + 14) = 1040 from by decide +kernel]; exact cellK_i (n := 40) (by decide) _) rfl) ?_
  refine j_aload_n X 0 rfl dX11_init_126 rfl ?_
  refine j_bipush X (40 : Int32) dX11_init_127 (by rfl) ?_
  refine j_newI X (N := 40) 12 1930 (by decide) (by decide) (by decide) aw_int dX11_init_129 ⟨Nat.le_of_ble_eq_true rfl, Nat.le_of_ble_eq_true rfl⟩ ?_
  refine j_putF X 17 (hin rfl) cf_X11 (by decide) fl_X11_56 dX11_init_131 rfl rfl rfl rfl (Nat.le_add_right _ _) ((jUp_ne (by omega)).trans jUp_eq) (Nat.le_of_ble_eq_true rfl) ?_
  refine j_zle (z1 := fun n => n = kB κ + (359 + 16)) (fun n9 hn9 => by have hn9 : n9 = _ := hn9; omega) ?_
  refine j_mem (jLe_step (o2 := .inr (12, [.int 0, .ref (kB κ + 359), .ref (kB κ + 360), .ref (kB κ + 361), .ref (kB κ + 362), .ref (kB κ + 363), .ref (kB κ + 364), .ref (kB κ + 365), .int 0, .ref (kB κ + 366), .ref (kB κ + 367), .ref (kB κ + 368), .ref (kB κ + 369), .ref (kB κ + 370), .ref (kB κ + 371), .ref (kB κ + 372), .ref (kB κ + 373), .ref (kB κ + 374), .null, .null, .null, .null, .null, .null, .null, .null, .null, .null, .null, .null, .int 0])) (by omega) (show kd (359 + 15) ≠ 0 from by decide +kernel) (by rw [show kd (359 + 15) = 1040 from by decide +kernel]; exact cellK_i (n := 40) (by decide) _) rfl) ?_
  refine j_aload_n X 0 rfl dX11_init_134 rfl ?_
  refine j_bipush X (8 : Int32) dX11_init_135 (by rfl) ?_
  refine j_newI X (N := 8) 11 1922 (by decide) (by decide) (by decide) aw_int dX11_init_137 ⟨Nat.le_of_ble_eq_true rfl, Nat.le_of_ble_eq_true rfl⟩ ?_
  refine j_putF X 18 (hin rfl) cf_X11 (by decide) fl_X11_59 dX11_init_139 rfl rfl rfl rfl (Nat.le_add_right _ _) ((jUp_ne (by omega)).trans jUp_eq) (Nat.le_of_ble_eq_true rfl) ?_
  refine j_zle (z1 := fun n => n = kB κ + (359 + 17)) (fun n9 hn9 => by have hn9 : n9 = _ := hn9; omega) ?_
  refine j_mem (jLe_step (o2 := .inr (12, [.int 0, .ref (kB κ + 359), .ref (kB κ + 360), .ref (kB κ + 361), .ref (kB κ + 362), .ref (kB κ + 363), .ref (kB κ + 364), .ref (kB κ + 365), .int 0, .ref (kB κ + 366), .ref (kB κ + 367), .ref (kB κ + 368), .ref (kB κ + 369), .ref (kB κ + 370), .ref (kB κ + 371), .ref (kB κ + 372), .ref (kB κ + 373), .ref (kB κ + 374), .ref (kB κ + 375), .null, .null, .null, .null, .null, .null, .null, .null, .null, .null, .null, .int 0])) (by omega) (show kd (359 + 16) ≠ 0 from by decide +kernel) (by rw [show kd (359 + 16) = 1008 from by decide +kernel]; exact cellK_i (n := 8) (by decide) _) rfl) ?_
  refine j_aload_n X 0 rfl dX11_init_142 rfl ?_
  refine j_sipush X (160 : Int32) dX11_init_143 (by rfl) ?_
  refine j_newI X (N := 160) 10 1762 (by decide) (by decide) (by decide) aw_int dX11_init_146 ⟨Nat.le_of_ble_eq_true rfl, Nat.le_of_ble_eq_true rfl⟩ ?_
  refine j_putF X 19 (hin rfl) cf_X11 (by decide) fl_X11_62 dX11_init_148 rfl rfl rfl rfl (Nat.le_add_right _ _) ((jUp_ne (by omega)).trans jUp_eq) (Nat.le_of_ble_eq_true rfl) ?_
  refine j_zle (z1 := fun n => n = kB κ + (359 + 18)) (fun n9 hn9 => by have hn9 : n9 = _ := hn9; omega) ?_
  refine j_mem (jLe_step (o2 := .inr (12, [.int 0, .ref (kB κ + 359), .ref (kB κ + 360), .ref (kB κ + 361), .ref (kB κ + 362), .ref (kB κ + 363), .ref (kB κ + 364), .ref (kB κ + 365), .int 0, .ref (kB κ + 366), .ref (kB κ + 367), .ref (kB κ + 368), .ref (kB κ + 369), .ref (kB κ + 370), .ref (kB κ + 371), .ref (kB κ + 372), .ref (kB κ + 373), .ref (kB κ + 374), .ref (kB κ + 375), .ref (kB κ + 376), .null, .null, .null, .null, .null, .null, .null, .null, .null, .null, .int 0])) (by omega) (show kd (359 + 17) ≠ 0 from by decide +kernel) (by rw [show kd (359 + 17) = 1160 from by decide +kernel]; exact cellK_i (n := 160) (by decide) _) rfl) ?_
  refine j_aload_n X 0 rfl dX11_init_151 rfl ?_
  refine j_sipush X (160 : Int32) dX11_init_152 (by rfl) ?_
  refine j_newI X (N := 160) 9 1602 (by decide) (by decide) (by decide) aw_int dX11_init_155 ⟨Nat.le_of_ble_eq_true rfl, Nat.le_of_ble_eq_true rfl⟩ ?_
  refine j_putF X 20 (hin rfl) cf_X11 (by decide) fl_X11_65 dX11_init_157 rfl rfl rfl rfl (Nat.le_add_right _ _) ((jUp_ne (by omega)).trans jUp_eq) (Nat.le_of_ble_eq_true rfl) ?_
  refine j_zle (z1 := fun n => n = kB κ + (359 + 19)) (fun n9 hn9 => by have hn9 : n9 = _ := hn9; omega) ?_
  refine j_mem (jLe_step (o2 := .inr (12, [.int 0, .ref (kB κ + 359), .ref (kB κ + 360), .ref (kB κ + 361), .ref (kB κ + 362), .ref (kB κ + 363), .ref (kB κ + 364), .ref (kB κ + 365), .int 0, .ref (kB κ + 366), .ref (kB κ + 367), .ref (kB κ + 368), .ref (kB κ + 369), .ref (kB κ + 370), .ref (kB κ + 371), .ref (kB κ + 372), .ref (kB κ + 373), .ref (kB κ + 374), .ref (kB κ + 375), .ref (kB κ + 376), .ref (kB κ + 377), .null, .null, .null, .null, .null, .null, .null, .null, .null, .int 0])) (by omega) (show kd (359 + 18) ≠ 0 from by decide +kernel) (by rw [show kd (359 + 18) = 1160 from by decide +kernel]; exact cellK_i (n := 160) (by decide) _) rfl) ?_
  refine j_aload_n X 0 rfl dX11_init_160 rfl ?_
  refine j_bipush X (24 : Int32) dX11_init_161 (by rfl) ?_
  refine j_newI X (N := 24) 8 1578 (by decide) (by decide) (by decide) aw_int dX11_init_163 ⟨Nat.le_of_ble_eq_true rfl, Nat.le_of_ble_eq_true rfl⟩ ?_
  refine j_putF X 21 (hin rfl) cf_X11 (by decide) fl_X11_68 dX11_init_165 rfl rfl rfl rfl (Nat.le_add_right _ _) ((jUp_ne (by omega)).trans jUp_eq) (Nat.le_of_ble_eq_true rfl) ?_
  refine j_zle (z1 := fun n => n = kB κ + (359 + 20)) (fun n9 hn9 => by have hn9 : n9 = _ := hn9; omega) ?_
  refine j_mem (jLe_step (o2 := .inr (12, [.int 0, .ref (kB κ + 359), .ref (kB κ + 360), .ref (kB κ + 361), .ref (kB κ + 362), .ref (kB κ + 363), .ref (kB κ + 364), .ref (kB κ + 365), .int 0, .ref (kB κ + 366), .ref (kB κ + 367), .ref (kB κ + 368), .ref (kB κ + 369), .ref (kB κ + 370), .ref (kB κ + 371), .ref (kB κ + 372), .ref (kB κ + 373), .ref (kB κ + 374), .ref (kB κ + 375), .ref (kB κ + 376), .ref (kB κ + 377), .ref (kB κ + 378), .null, .null, .null, .null, .null, .null, .null, .null, .int 0])) (by omega) (show kd (359 + 19) ≠ 0 from by decide +kernel) (by rw [show kd (359 + 19) = 1024 from by decide +kernel]; exact cellK_i (n := 24) (by decide) _) rfl) ?_
  refine j_aload_n X 0 rfl dX11_init_168 rfl ?_
  refine j_bipush X (6 : Int32) dX11_init_169 (by rfl) ?_
  refine j_newI X (N := 6) 7 1572 (by decide) (by decide) (by decide) aw_int dX11_init_171 ⟨Nat.le_of_ble_eq_true rfl, Nat.le_of_ble_eq_true rfl⟩ ?_
  refine j_putF X 22 (hin rfl) cf_X11 (by decide) fl_X11_71 dX11_init_173 rfl rfl rfl rfl (Nat.le_add_right _ _) ((jUp_ne (by omega)).trans jUp_eq) (Nat.le_of_ble_eq_true rfl) ?_
  refine j_zle (z1 := fun n => n = kB κ + (359 + 21)) (fun n9 hn9 => by have hn9 : n9 = _ := hn9; omega) ?_
  refine j_mem (jLe_step (o2 := .inr (12, [.int 0, .ref (kB κ + 359), .ref (kB κ + 360), .ref (kB κ + 361), .ref (kB κ + 362), .ref (kB κ + 363), .ref (kB κ + 364), .ref (kB κ + 365), .int 0, .ref (kB κ + 366), .ref (kB κ + 367), .ref (kB κ + 368), .ref (kB κ + 369), .ref (kB κ + 370), .ref (kB κ + 371), .ref (kB κ + 372), .ref (kB κ + 373), .ref (kB κ + 374), .ref (kB κ + 375), .ref (kB κ + 376), .ref (kB κ + 377), .ref (kB κ + 378), .ref (kB κ + 379), .null, .null, .null, .null, .null, .null, .null, .int 0])) (by omega) (show kd (359 + 20) ≠ 0 from by decide +kernel) (by rw [show kd (359 + 20) = 1006 from by decide +kernel]; exact cellK_i (n := 6) (by decide) _) rfl) ?_
  refine j_aload_n X 0 rfl dX11_init_176 rfl ?_
  refine j_bipush X (6 : Int32) dX11_init_177 (by rfl) ?_
  refine j_newI X (N := 6) 6 1566 (by decide) (by decide) (by decide) aw_int dX11_init_179 ⟨Nat.le_of_ble_eq_true rfl, Nat.le_of_ble_eq_true rfl⟩ ?_
  refine j_putF X 23 (hin rfl) cf_X11 (by decide) fl_X11_74 dX11_init_181 rfl rfl rfl rfl (Nat.le_add_right _ _) ((jUp_ne (by omega)).trans jUp_eq) (Nat.le_of_ble_eq_true rfl) ?_
  refine j_zle (z1 := fun n => n = kB κ + (359 + 22)) (fun n9 hn9 => by have hn9 : n9 = _ := hn9; omega) ?_
  refine j_mem (jLe_step (o2 := .inr (12, [.int 0, .ref (kB κ + 359), .ref (kB κ + 360), .ref (kB κ + 361), .ref (kB κ + 362), .ref (kB κ + 363), .ref (kB κ + 364), .ref (kB κ + 365), .int 0, .ref (kB κ + 366), .ref (kB κ + 367), .ref (kB κ + 368), .ref (kB κ + 369), .ref (kB κ + 370), .ref (kB κ + 371), .ref (kB κ + 372), .ref (kB κ + 373), .ref (kB κ + 374), .ref (kB κ + 375), .ref (kB κ + 376), .ref (kB κ + 377), .ref (kB κ + 378), .ref (kB κ + 379), .ref (kB κ + 380), .null, .null, .null, .null, .null, .null, .int 0])) (by omega) (show kd (359 + 21) ≠ 0 from by decide +kernel) (by rw [show kd (359 + 21) = 1006 from by decide +kernel]; exact cellK_i (n := 6) (by decide) _) rfl) ?_
  refine j_aload_n X 0 rfl dX11_init_184 rfl ?_
  refine j_bipush X (120 : Int32) dX11_init_185 (by rfl) ?_
  refine j_newI X (N := 120) 5 1446 (by decide) (by decide) (by decide) aw_int dX11_init_187 ⟨Nat.le_of_ble_eq_true rfl, Nat.le_of_ble_eq_true rfl⟩ ?_
  refine j_putF X 24 (hin rfl) cf_X11 (by decide) fl_X11_77 dX11_init_189 rfl rfl rfl rfl (Nat.le_add_right _ _) ((jUp_ne (by omega)).trans jUp_eq) (Nat.le_of_ble_eq_true rfl) ?_
  refine j_zle (z1 := fun n => n = kB κ + (359 + 23)) (fun n9 hn9 => by have hn9 : n9 = _ := hn9; omega) ?_
  refine j_mem (jLe_step (o2 := .inr (12, [.int 0, .ref (kB κ + 359), .ref (kB κ + 360), .ref (kB κ + 361), .ref (kB κ + 362), .ref (kB κ + 363), .ref (kB κ + 364), .ref (kB κ + 365), .int 0, .ref (kB κ + 366), .ref (kB κ + 367), .ref (kB κ + 368), .ref (kB κ + 369), .ref (kB κ + 370), .ref (kB κ + 371), .ref (kB κ + 372), .ref (kB κ + 373), .ref (kB κ + 374), .ref (kB κ + 375), .ref (kB κ + 376), .ref (kB κ + 377), .ref (kB κ + 378), .ref (kB κ + 379), .ref (kB κ + 380), .ref (kB κ + 381), .null, .null, .null, .null, .null, .int 0])) (by omega) (show kd (359 + 22) ≠ 0 from by decide +kernel) (by rw [show kd (359 + 22) = 1120 from by decide +kernel]; exact cellK_i (n := 120) (by decide) _) rfl) ?_
  refine j_aload_n X 0 rfl dX11_init_192 rfl ?_
  refine j_sipush X (960 : Int32) dX11_init_193 (by rfl) ?_
  refine j_newI X (N := 960) 4 486 (by decide) (by decide) (by decide) aw_int dX11_init_196 ⟨Nat.le_of_ble_eq_true rfl, Nat.le_of_ble_eq_true rfl⟩ ?_
  refine j_putF X 25 (hin rfl) cf_X11 (by decide) fl_X11_80 dX11_init_198 rfl rfl rfl rfl (Nat.le_add_right _ _) ((jUp_ne (by omega)).trans jUp_eq) (Nat.le_of_ble_eq_true rfl) ?_
  refine j_zle (z1 := fun n => n = kB κ + (359 + 24)) (fun n9 hn9 => by have hn9 : n9 = _ := hn9; omega) ?_
  refine j_mem (jLe_step (o2 := .inr (12, [.int 0, .ref (kB κ + 359), .ref (kB κ + 360), .ref (kB κ + 361), .ref (kB κ + 362), .ref (kB κ + 363), .ref (kB κ + 364), .ref (kB κ + 365), .int 0, .ref (kB κ + 366), .ref (kB κ + 367), .ref (kB κ + 368), .ref (kB κ + 369), .ref (kB κ + 370), .ref (kB κ + 371), .ref (kB κ + 372), .ref (kB κ + 373), .ref (kB κ + 374), .ref (kB κ + 375), .ref (kB κ + 376), .ref (kB κ + 377), .ref (kB κ + 378), .ref (kB κ + 379), .ref (kB κ + 380), .ref (kB κ + 381), .ref (kB κ + 382), .null, .null, .null, .null, .int 0])) (by omega) (show kd (359 + 23) ≠ 0 from by decide +kernel) (by rw [show kd (359 + 23) = 1960 from by decide +kernel]; exact cellK_i (n := 960) (by decide) _) rfl) ?_
  refine j_aload_n X 0 rfl dX11_init_201 rfl ?_
  refine j_bipush X (6 : Int32) dX11_init_202 (by rfl) ?_
  refine j_newZ X (N := 6) 3 480 (by decide) (by decide) (by decide) aw_bool dX11_init_204 ⟨Nat.le_of_ble_eq_true rfl, Nat.le_of_ble_eq_true rfl⟩ ?_
  refine j_putF X 26 (hin rfl) cf_X11 (by decide) fl_X11_83 dX11_init_206 rfl rfl rfl rfl (Nat.le_add_right _ _) ((jUp_ne (by omega)).trans jUp_eq) (Nat.le_of_ble_eq_true rfl) ?_
  refine j_zle (z1 := fun n => n = kB κ + (359 + 25)) (fun n9 hn9 => by have hn9 : n9 = _ := hn9; omega) ?_
  refine j_mem (jLe_step (o2 := .inr (12, [.int 0, .ref (kB κ + 359), .ref (kB κ + 360), .ref (kB κ + 361), .ref (kB κ + 362), .ref (kB κ + 363), .ref (kB κ + 364), .ref (kB κ + 365), .int 0, .ref (kB κ + 366), .ref (kB κ + 367), .ref (kB κ + 368), .ref (kB κ + 369), .ref (kB κ + 370), .ref (kB κ + 371), .ref (kB κ + 372), .ref (kB κ + 373), .ref (kB κ + 374), .ref (kB κ + 375), .ref (kB κ + 376), .ref (kB κ + 377), .ref (kB κ + 378), .ref (kB κ + 379), .ref (kB κ + 380), .ref (kB κ + 381), .ref (kB κ + 382), .ref (kB κ + 383), .null, .null, .null, .int 0])) (by omega) (show kd (359 + 24) ≠ 0 from by decide +kernel) (by rw [show kd (359 + 24) = 3006 from by decide +kernel]; exact cellK_z (n := 6) (by decide) _) rfl) ?_
  refine j_aload_n X 0 rfl dX11_init_209 rfl ?_
  refine j_sipush X (160 : Int32) dX11_init_210 (by rfl) ?_
  refine j_newI X (N := 160) 2 320 (by decide) (by decide) (by decide) aw_int dX11_init_213 ⟨Nat.le_of_ble_eq_true rfl, Nat.le_of_ble_eq_true rfl⟩ ?_
  refine j_putF X 27 (hin rfl) cf_X11 (by decide) fl_X11_86 dX11_init_215 rfl rfl rfl rfl (Nat.le_add_right _ _) ((jUp_ne (by omega)).trans jUp_eq) (Nat.le_of_ble_eq_true rfl) ?_
  refine j_zle (z1 := fun n => n = kB κ + (359 + 26)) (fun n9 hn9 => by have hn9 : n9 = _ := hn9; omega) ?_
  refine j_mem (jLe_step (o2 := .inr (12, [.int 0, .ref (kB κ + 359), .ref (kB κ + 360), .ref (kB κ + 361), .ref (kB κ + 362), .ref (kB κ + 363), .ref (kB κ + 364), .ref (kB κ + 365), .int 0, .ref (kB κ + 366), .ref (kB κ + 367), .ref (kB κ + 368), .ref (kB κ + 369), .ref (kB κ + 370), .ref (kB κ + 371), .ref (kB κ + 372), .ref (kB κ + 373), .ref (kB κ + 374), .ref (kB κ + 375), .ref (kB κ + 376), .ref (kB κ + 377), .ref (kB κ + 378), .ref (kB κ + 379), .ref (kB κ + 380), .ref (kB κ + 381), .ref (kB κ + 382), .ref (kB κ + 383), .ref (kB κ + 384), .null, .null, .int 0])) (by omega) (show kd (359 + 25) ≠ 0 from by decide +kernel) (by rw [show kd (359 + 25) = 1160 from by decide +kernel]; exact cellK_i (n := 160) (by decide) _) rfl) ?_
  refine j_aload_n X 0 rfl dX11_init_218 rfl ?_
  refine j_sipush X (160 : Int32) dX11_init_219 (by rfl) ?_
  refine j_newI X (N := 160) 1 160 (by decide) (by decide) (by decide) aw_int dX11_init_222 ⟨Nat.le_of_ble_eq_true rfl, Nat.le_of_ble_eq_true rfl⟩ ?_
  refine j_putF X 28 (hin rfl) cf_X11 (by decide) fl_X11_89 dX11_init_224 rfl rfl rfl rfl (Nat.le_add_right _ _) ((jUp_ne (by omega)).trans jUp_eq) (Nat.le_of_ble_eq_true rfl) ?_
  refine j_zle (z1 := fun n => n = kB κ + (359 + 27)) (fun n9 hn9 => by have hn9 : n9 = _ := hn9; omega) ?_
  refine j_mem (jLe_step (o2 := .inr (12, [.int 0, .ref (kB κ + 359), .ref (kB κ + 360), .ref (kB κ + 361), .ref (kB κ + 362), .ref (kB κ + 363), .ref (kB κ + 364), .ref (kB κ + 365), .int 0, .ref (kB κ + 366), .ref (kB κ + 367), .ref (kB κ + 368), .ref (kB κ + 369), .ref (kB κ + 370), .ref (kB κ + 371), .ref (kB κ + 372), .ref (kB κ + 373), .ref (kB κ + 374), .ref (kB κ + 375), .ref (kB κ + 376), .ref (kB κ + 377), .ref (kB κ + 378), .ref (kB κ + 379), .ref (kB κ + 380), .ref (kB κ + 381), .ref (kB κ + 382), .ref (kB κ + 383), .ref (kB κ + 384), .ref (kB κ + 385), .null, .int 0])) (by omega) (show kd (359 + 26) ≠ 0 from by decide +kernel) (by rw [show kd (359 + 26) = 1160 from by decide +kernel]; exact cellK_i (n := 160) (by decide) _) rfl) ?_
  refine j_aload_n X 0 rfl dX11_init_227 rfl ?_
  refine j_sipush X (160 : Int32) dX11_init_228 (by rfl) ?_
  refine j_newI X (N := 160) 0 0 (by decide) (by decide) (by decide) aw_int dX11_init_231 ⟨Nat.le_of_ble_eq_true rfl, Nat.le_of_ble_eq_true rfl⟩ ?_
  refine j_putF X 29 (hin rfl) cf_X11 (by decide) fl_X11_92 dX11_init_233 rfl rfl rfl rfl (Nat.le_add_right _ _) ((jUp_ne (by omega)).trans jUp_eq) (Nat.le_of_ble_eq_true rfl) ?_
  refine j_zle (z1 := fun n => n = kB κ + (359 + 28)) (fun n9 hn9 => by have hn9 : n9 = _ := hn9; omega) ?_
  refine j_mem (jLe_step (o2 := .inr (12, [.int 0, .ref (kB κ + 359), .ref (kB κ + 360), .ref (kB κ + 361), .ref (kB κ + 362), .ref (kB κ + 363), .ref (kB κ + 364), .ref (kB κ + 365), .int 0, .ref (kB κ + 366), .ref (kB κ + 367), .ref (kB κ + 368), .ref (kB κ + 369), .ref (kB κ + 370), .ref (kB κ + 371), .ref (kB κ + 372), .ref (kB κ + 373), .ref (kB κ + 374), .ref (kB κ + 375), .ref (kB κ + 376), .ref (kB κ + 377), .ref (kB κ + 378), .ref (kB κ + 379), .ref (kB κ + 380), .ref (kB κ + 381), .ref (kB κ + 382), .ref (kB κ + 383), .ref (kB κ + 384), .ref (kB κ + 385), .ref (kB κ + 386), .int 0])) (by omega) (show kd (359 + 27) ≠ 0 from by decide +kernel) (by rw [show kd (359 + 27) = 1160 from by decide +kernel]; exact cellK_i (n := 160) (by decide) _) rfl) ?_
  refine j_mem (jLe_end (lo := 358) (by decide +kernel) (by rw [show kd 358 = 21 from by decide +kernel]; rfl)) ?_
  exact j_vret X dX11_init_236 rfl (fun n hn => hn)
end CTM
