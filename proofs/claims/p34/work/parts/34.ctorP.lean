section CTS
abbrev rm_X6_init : Room := { frames := 1, cells := 22, slots := 100, locals := 16 }
set_option maxHeartbeats 4000000 in
set_option maxRecDepth 100000 in
theorem c_X6_init {l : Launch} {D : va_G} {B t0 : Nat} (hl9 : l.stackTraces = false) (M : jMem)  (hM : M (B + 1) = some (.inr (7, [.null, .null]))) : jCf l D B t0 yX6_init cX6_init 1 none rm_X6_init [.ref (B + 1)] M (fun n => n = B + 2) (some (0, 0, ())) rvV (fun (_ : Unit) M9 => M9 = memG 1 (1 + 23) D B zS M) (fun n => n = B + 24) := by
  refine jC_of hl9 (me_X6_init).1 [(0, .ref (B + 1))] ⟨by decide +kernel, Nat.le_of_ble_eq_true rfl⟩ rfl (fun κ hl hD hB hT X htab hin => ?_)
  subst hl hD hB hT
  have X : jX κ RX6 cX6_init 1 none := X
  have hk0 : ∀ (a : Nat) (e : va_E), M a = some e → kd (a - kB κ) = 0 → a < kB κ + 1 ∨ kB κ + 24 ≤ a := fun a e _ h => by
    refine Decidable.byContradiction fun hc => ?_
    have h9 : ∀ j, j < 23 → ¬ kd (1 + j) = 0 := by decide +kernel
    refine h9 (a - kB κ - 1) (by omega) ?_
    rw [show 1 + (a - kB κ - 1) = a - kB κ by omega]
    exact h
  refine j_aload_n X 0 rfl dX6_init_0 rfl ?_
  refine j_objInit X ml_X6_3 im_objInit co_objInit dX6_init_1 ⟨Nat.le_of_ble_eq_true rfl, Nat.le_of_ble_eq_true rfl⟩ ?_
  refine j_aload_n X 0 rfl dX6_init_4 rfl ?_
  refine j_bipush X (20 : Int32) dX6_init_5 (by rfl) ?_
  refine j_iconst X (3 : Int32) dX6_init_7 (by rfl) ?_
  refine j_mna X (N := 20) (K := 3) 1 20 cl_X6_9 ao_int2 aw_int (by decide) (by decide) (by decide) (by decide) (by decide) dX6_init_8 (by decide) ?_
  refine j_zle (z1 := fun n => n = kB κ + 23) (fun n9 hn9 => by have hn9 : n9 = _ := hn9; omega) ?_
  refine j_putF X 0 (hin rfl) cf_X6 (by decide) fl_X6_11 dX6_init_12 rfl rfl rfl rfl (Nat.le_add_right _ _) (((jUp_ne (by omega)).trans ((jRows_out (by omega)).trans hM))) (Nat.le_of_ble_eq_true rfl) ?_
  refine j_aload_n X 0 rfl dX6_init_15 rfl ?_
  refine j_bipush X (20 : Int32) dX6_init_16 (by rfl) ?_
  refine j_newI X (N := 20) 0 0 (by decide) (by decide) (by decide) aw_int dX6_init_18 (by decide) ?_
  refine j_zle (z1 := fun n => n = kB κ + 24) (fun n9 hn9 => by have hn9 : n9 = _ := hn9; omega) ?_
  refine j_putF X 1 (hin rfl) cf_X6 (by decide) fl_X6_16 dX6_init_20 rfl rfl rfl rfl (Nat.le_add_right _ _) ((jUp_ne (by omega)).trans jUp_eq) (Nat.le_of_ble_eq_true rfl) ?_
  refine j_memE (M1 := memG 1 (1 + 23) (kD κ) (kB κ) zS M) (mem_cells (fun j hj hk => ?_) (fun a e he ho => ⟨e, ?_, Or.inl rfl⟩)) ?_
  · match j, hj, hk with
    | 0, _, _ => exact ⟨_, by (repeat (first | exact jUp_at (by omega) | refine (jUp_ne (by omega)).trans ?_ | exact jRows_in (by omega) | refine (jRows_out (by omega)).trans ?_ | exact hM)), Or.inl (by rw [show kd (1 + 0) = 2 from by decide +kernel]; rfl)⟩
    | 1, _, _ => exact ⟨_, by (repeat (first | exact jUp_at (by omega) | refine (jUp_ne (by omega)).trans ?_ | exact jRows_in (by omega) | refine (jRows_out (by omega)).trans ?_ | exact hM)), Or.inr (by rw [show kd (1 + 1) = 3 from by decide +kernel]; exact ⟨_, _, _, _, rfl, rfl, fun i hi => by rw [if_pos hi]; exact congrArg some (by omega)⟩)⟩
    | 2, _, _ => exact ⟨_, by (repeat (first | exact jUp_at (by omega) | refine (jUp_ne (by omega)).trans ?_ | exact jRows_in (by omega) | refine (jRows_out (by omega)).trans ?_ | exact hM)), Or.inl (by rw [show kd (1 + 2) = 1003 from by decide +kernel]; exact cellK_i (n := 3) (by decide) _)⟩
    | 3, _, _ => exact ⟨_, by (repeat (first | exact jUp_at (by omega) | refine (jUp_ne (by omega)).trans ?_ | exact jRows_in (by omega) | refine (jRows_out (by omega)).trans ?_ | exact hM)), Or.inl (by rw [show kd (1 + 3) = 1003 from by decide +kernel]; exact cellK_i (n := 3) (by decide) _)⟩
    | 4, _, _ => exact ⟨_, by (repeat (first | exact jUp_at (by omega) | refine (jUp_ne (by omega)).trans ?_ | exact jRows_in (by omega) | refine (jRows_out (by omega)).trans ?_ | exact hM)), Or.inl (by rw [show kd (1 + 4) = 1003 from by decide +kernel]; exact cellK_i (n := 3) (by decide) _)⟩
    | 5, _, _ => exact ⟨_, by (repeat (first | exact jUp_at (by omega) | refine (jUp_ne (by omega)).trans ?_ | exact jRows_in (by omega) | refine (jRows_out (by omega)).trans ?_ | exact hM)), Or.inl (by rw [show kd (1 + 5) = 1003 from by decide +kernel]; exact cellK_i (n := 3) (by decide) _)⟩
    | 6, _, _ => exact ⟨_, by (repeat (first | exact jUp_at (by omega) | refine (jUp_ne (by omega)).trans ?_ | exact jRows_in (by omega) | refine (jRows_out (by omega)).trans ?_ | exact hM)), Or.inl (by rw [show kd (1 + 6) = 1003 from by decide +kernel]; exact cellK_i (n := 3) (by decide) _)⟩
    | 7, _, _ => exact ⟨_, by (repeat (first | exact jUp_at (by omega) | refine (jUp_ne (by omega)).trans ?_ | exact jRows_in (by omega) | refine (jRows_out (by omega)).trans ?_ | exact hM)), Or.inl (by rw [show kd (1 + 7) = 1003 from by decide +kernel]; exact cellK_i (n := 3) (by decide) _)⟩
    | 8, _, _ => exact ⟨_, by (repeat (first | exact jUp_at (by omega) | refine (jUp_ne (by omega)).trans ?_ | exact jRows_in (by omega) | refine (jRows_out (by omega)).trans ?_ | exact hM)), Or.inl (by rw [show kd (1 + 8) = 1003 from by decide +kernel]; exact cellK_i (n := 3) (by decide) _)⟩
    | 9, _, _ => exact ⟨_, by (repeat (first | exact jUp_at (by omega) | refine (jUp_ne (by omega)).trans ?_ | exact jRows_in (by omega) | refine (jRows_out (by omega)).trans ?_ | exact hM)), Or.inl (by rw [show kd (1 + 9) = 1003 from by decide +kernel]; exact cellK_i (n := 3) (by decide) _)⟩
    | 10, _, _ => exact ⟨_, by (repeat (first | exact jUp_at (by omega) | refine (jUp_ne (by omega)).trans ?_ | exact jRows_in (by omega) | refine (jRows_out (by omega)).trans ?_ | exact hM)), Or.inl (by rw [show kd (1 + 10) = 1003 from by decide +kernel]; exact cellK_i (n := 3) (by decide) _)⟩
    | 11, _, _ => exact ⟨_, by (repeat (first | exact jUp_at (by omega) | refine (jUp_ne (by omega)).trans ?_ | exact jRows_in (by omega) | refine (jRows_out (by omega)).trans ?_ | exact hM)), Or.inl (by rw [show kd (1 + 11) = 1003 from by decide +kernel]; exact cellK_i (n := 3) (by decide) _)⟩
    | 12, _, _ => exact ⟨_, by (repeat (first | exact jUp_at (by omega) | refine (jUp_ne (by omega)).trans ?_ | exact jRows_in (by omega) | refine (jRows_out (by omega)).trans ?_ | exact hM)), Or.inl (by rw [show kd (1 + 12) = 1003 from by decide +kernel]; exact cellK_i (n := 3) (by decide) _)⟩
    | 13, _, _ => exact ⟨_, by (repeat (first | exact jUp_at (by omega) | refine (jUp_ne (by omega)).trans ?_ | exact jRows_in (by omega) | refine (jRows_out (by omega)).trans ?_ | exact hM)), Or.inl (by rw [show kd (1 + 13) = 1003 from by decide +kernel]; exact cellK_i (n := 3) (by decide) _)⟩
    | 14, _, _ => exact ⟨_, by (repeat (first | exact jUp_at (by omega) | refine (jUp_ne (by omega)).trans ?_ | exact jRows_in (by omega) | refine (jRows_out (by omega)).trans ?_ | exact hM)), Or.inl (by rw [show kd (1 + 14) = 1003 from by decide +kernel]; exact cellK_i (n := 3) (by decide) _)⟩
    | 15, _, _ => exact ⟨_, by (repeat (first | exact jUp_at (by omega) | refine (jUp_ne (by omega)).trans ?_ | exact jRows_in (by omega) | refine (jRows_out (by omega)).trans ?_ | exact hM)), Or.inl (by rw [show kd (1 + 15) = 1003 from by decide +kernel]; exact cellK_i (n := 3) (by decide) _)⟩
    | 16, _, _ => exact ⟨_, by (repeat (first | exact jUp_at (by omega) | refine (jUp_ne (by omega)).trans ?_ | exact jRows_in (by omega) | refine (jRows_out (by omega)).trans ?_ | exact hM)), Or.inl (by rw [show kd (1 + 16) = 1003 from by decide +kernel]; exact cellK_i (n := 3) (by decide) _)⟩
    | 17, _, _ => exact ⟨_, by (repeat (first | exact jUp_at (by omega) | refine (jUp_ne (by omega)).trans ?_ | exact jRows_in (by omega) | refine (jRows_out (by omega)).trans ?_ | exact hM)), Or.inl (by rw [show kd (1 + 17) = 1003 from by decide +kernel]; exact cellK_i (n := 3) (by decide) _)⟩
    | 18, _, _ => exact ⟨_, by (repeat (first | exact jUp_at (by omega) | refine (jUp_ne (by omega)).trans ?_ | exact jRows_in (by omega) | refine (jRows_out (by omega)).trans ?_ | exact hM)), Or.inl (by rw [show kd (1 + 18) = 1003 from by decide +kernel]; exact cellK_i (n := 3) (by decide) _)⟩
    | 19, _, _ => exact ⟨_, by (repeat (first | exact jUp_at (by omega) | refine (jUp_ne (by omega)).trans ?_ | exact jRows_in (by omega) | refine (jRows_out (by omega)).trans ?_ | exact hM)), Or.inl (by rw [show kd (1 + 19) = 1003 from by decide +kernel]; exact cellK_i (n := 3) (by decide) _)⟩
    | 20, _, _ => exact ⟨_, by (repeat (first | exact jUp_at (by omega) | refine (jUp_ne (by omega)).trans ?_ | exact jRows_in (by omega) | refine (jRows_out (by omega)).trans ?_ | exact hM)), Or.inl (by rw [show kd (1 + 20) = 1003 from by decide +kernel]; exact cellK_i (n := 3) (by decide) _)⟩
    | 21, _, _ => exact ⟨_, by (repeat (first | exact jUp_at (by omega) | refine (jUp_ne (by omega)).trans ?_ | exact jRows_in (by omega) | refine (jRows_out (by omega)).trans ?_ | exact hM)), Or.inl (by rw [show kd (1 + 21) = 1003 from by decide +kernel]; exact cellK_i (n := 3) (by decide) _)⟩
    | 22, _, _ => exact ⟨_, by (repeat (first | exact jUp_at (by omega) | refine (jUp_ne (by omega)).trans ?_ | exact jRows_in (by omega) | refine (jRows_out (by omega)).trans ?_ | exact hM)), Or.inl (by rw [show kd (1 + 22) = 1020 from by decide +kernel]; exact cellK_i (n := 20) (by decide) _)⟩
    | j + 23, hj, _ => exact absurd hj (by omega)
  · have ha : a < kB κ + 1 ∨ kB κ + 24 ≤ a := by
      rcases ho with h | h | h
      · exact Or.inl h
      · exact Or.inr h
      · exact hk0 a e he h
    (repeat (first | exact he | refine (jUp_ne (by omega)).trans ?_ | refine (jRows_out (by omega)).trans ?_))
  exact j_vret X dX6_init_23 rfl (fun n hn => hn)
end CTS
