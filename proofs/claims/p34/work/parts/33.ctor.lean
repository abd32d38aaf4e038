section CTR
abbrev rm_X7_init : Room := { frames := 1, cells := 0, slots := 0, locals := 16 }
set_option maxHeartbeats 4000000 in
set_option maxRecDepth 100000 in
theorem c_X7_init {l : Launch} {D : va_G} {B t0 : Nat} (hl9 : l.stackTraces = false) (M : jMem)  (hM : M (B + 32) = some (.inr (8, [.int 0, .int 0]))) : jCf l D B t0 yX7_init cX7_init 1 none rm_X7_init [.ref (B + 32)] M (fun n => n = B + 33) (some (0, 0, ())) rvV (fun (_ : Unit) M9 => M9 = memG 32 (32 + 1) D B zS M) (fun n => n = B + 33) := by
  refine jC_of hl9 (me_X7_init).1 [(0, .ref (B + 32))] ⟨by decide +kernel, Nat.le_of_ble_eq_true rfl⟩ rfl (fun κ hl hD hB hT X htab hin => ?_)
  subst hl hD hB hT
  have X : jX κ RX7 cX7_init 1 none := X
  have hk0 : ∀ (a : Nat) (e : va_E), M a = some e → kd (a - kB κ) = 0 → a < kB κ + 32 ∨ kB κ + 33 ≤ a := fun a e _ h => by
    refine Decidable.byContradiction fun hc => ?_
    have h9 : ∀ j, j < 1 → ¬ kd (32 + j) = 0 := by decide +kernel
    refine h9 (a - kB κ - 32) (by omega) ?_
    rw [show 32 + (a - kB κ - 32) = a - kB κ by omega]
    exact h
  refine j_aload_n X 0 rfl dX7_init_0 rfl ?_
  refine j_objInit X ml_X7_3 im_objInit co_objInit dX7_init_1 ⟨Nat.le_of_ble_eq_true rfl, Nat.le_of_ble_eq_true rfl⟩ ?_
  refine j_memE (M1 := memG 32 (32 + 1) (kD κ) (kB κ) zS M) (mem_cells (fun j hj hk => ?_) (fun a e he ho => ⟨e, ?_, Or.inl rfl⟩)) ?_
  · match j, hj, hk with
    | 0, _, _ => exact ⟨_, by (repeat (first | exact jUp_at (by omega) | refine (jUp_ne (by omega)).trans ?_ | exact jRows_in (by omega) | refine (jRows_out (by omega)).trans ?_ | exact hM)), Or.inl (by rw [show kd (32 + 0) = 11 from by decide +kernel]; rfl)⟩
    | j + 1, hj, _ => exact absurd hj (by omega)
  · have ha : a < kB κ + 32 ∨ kB κ + 33 ≤ a := by
      rcases ho with h | h | h
      · exact Or.inl h
      · exact Or.inr h
      · exact hk0 a e he h
    (repeat (first | exact he | refine (jUp_ne (by omega)).trans ?_ | refine (jRows_out (by omega)).trans ?_))
  exact j_vret X dX7_init_4 rfl (fun n hn => hn)
abbrev rm_X2_init : Room := { frames := 1, cells := 3, slots := 27, locals := 16 }
set_option maxHeartbeats 4000000 in
set_option maxRecDepth 100000 in
theorem c_X2_init {l : Launch} {D : va_G} {B t0 : Nat} (hl9 : l.stackTraces = false) (M : jMem)  (hM : M (B + 33) = some (.inr (3, [.null, .null, .null, .int 0]))) : jCf l D B t0 yX2_init cX2_init 1 none rm_X2_init [.ref (B + 33)] M (fun n => n = B + 34) (some (0, 0, ())) rvV (fun (_ : Unit) M9 => M9 = memG 33 (33 + 4) D B zS M) (fun n => n = B + 37) := by
  refine jC_of hl9 (me_X2_init).1 [(0, .ref (B + 33))] ⟨by decide +kernel, Nat.le_of_ble_eq_true rfl⟩ rfl (fun κ hl hD hB hT X htab hin => ?_)
  subst hl hD hB hT
  have X : jX κ RX2 cX2_init 1 none := X
  have hk0 : ∀ (a : Nat) (e : va_E), M a = some e → kd (a - kB κ) = 0 → a < kB κ + 33 ∨ kB κ + 37 ≤ a := fun a e _ h => by
    refine Decidable.byContradiction fun hc => ?_
    have h9 : ∀ j, j < 4 → ¬ kd (33 + j) = 0 := by decide +kernel
    refine h9 (a - kB κ - 33) (by omega) ?_
    rw [show 33 + (a - kB κ - 33) = a - kB κ by omega]
    exact h
  refine j_aload_n X 0 rfl dX2_init_0 rfl ?_
  refine j_objInit X ml_X2_3 im_objInit co_objInit dX2_init_1 ⟨Nat.le_of_ble_eq_true rfl, Nat.le_of_ble_eq_true rfl⟩ ?_
  refine j_aload_n X 0 rfl dX2_init_4 rfl ?_
  refine j_bipush X (9 : Int32) dX2_init_5 (by rfl) ?_
  refine j_newI X (N := 9) 2 18 (by decide) (by decide) (by decide) aw_int dX2_init_7 (by decide) ?_
  refine j_zle (z1 := fun n => n = kB κ + 35) (fun n9 hn9 => by have hn9 : n9 = _ := hn9; omega) ?_
  refine j_putF X 0 (hin rfl) cf_X2 (by decide) fl_X2_9 dX2_init_9 rfl rfl rfl rfl (Nat.le_add_right _ _) ((jUp_ne (by omega)).trans hM) (Nat.le_of_ble_eq_true rfl) ?_
  refine j_aload_n X 0 rfl dX2_init_12 rfl ?_
  refine j_bipush X (9 : Int32) dX2_init_13 (by rfl) ?_
  refine j_newI X (N := 9) 1 9 (by decide) (by decide) (by decide) aw_int dX2_init_15 (by decide) ?_
  refine j_zle (z1 := fun n => n = kB κ + 36) (fun n9 hn9 => by have hn9 : n9 = _ := hn9; omega) ?_
  refine j_putF X 1 (hin rfl) cf_X2 (by decide) fl_X2_15 dX2_init_17 rfl rfl rfl rfl (Nat.le_add_right _ _) ((jUp_ne (by omega)).trans jUp_eq) (Nat.le_of_ble_eq_true rfl) ?_
  refine j_aload_n X 0 rfl dX2_init_20 rfl ?_
  refine j_bipush X (9 : Int32) dX2_init_21 (by rfl) ?_
  refine j_newI X (N := 9) 0 0 (by decide) (by decide) (by decide) aw_int dX2_init_23 (by decide) ?_
  refine j_zle (z1 := fun n => n = kB κ + 37) (fun n9 hn9 => by have hn9 : n9 = _ := hn9; omega) ?_
  refine j_putF X 2 (hin rfl) cf_X2 (by decide) fl_X2_18 dX2_init_25 rfl rfl rfl rfl (Nat.le_add_right _ _) ((jUp_ne (by omega)).trans jUp_eq) (Nat.le_of_ble_eq_true rfl) ?_
  refine j_memE (M1 := memG 33 (33 + 4) (kD κ) (kB κ) zS M) (mem_cells (fun j hj hk => ?_) (fun a e he ho => ⟨e, ?_, Or.inl rfl⟩)) ?_
  · match j, hj, hk with
    | 0, _, _ => exact ⟨_, by (repeat (first | exact jUp_at (by omega) | refine (jUp_ne (by omega)).trans ?_ | exact jRows_in (by omega) | refine (jRows_out (by omega)).trans ?_ | exact hM)), Or.inl (by rw [show kd (33 + 0) = 12 from by decide +kernel]; rfl)⟩
    | 1, _, _ => exact ⟨_, by (repeat (first | exact jUp_at (by omega) | refine (jUp_ne (by omega)).trans ?_ | exact jRows_in (by omega) | refine (jRows_out (by omega)).trans ?_ | exact hM)), Or.inl (by rw [show kd (33 + 1) = 1009 from by decide +kernel]; exact cellK_i (n := 9) (by decide) _)⟩
    | 2, _, _ => exact ⟨_, by (repeat (first | exact jUp_at (by omega) | refine (jUp_ne (by omega)).trans ?_ | exact jRows_in (by omega) | refine (jRows_out (by omega)).trans ?_ | exact hM)), Or.inl (by rw [show kd (33 + 2) = 1009 from by decide +kernel]; exact cellK_i (n := 9) (by decide) _)⟩
    | 3, _, _ => exact ⟨_, by (repeat (first | exact jUp_at (by omega) | refine (jUp_ne (by omega)).trans ?_ | exact jRows_in (by omega) | refine (jRows_out (by omega)).trans ?_ | exact hM)), Or.inl (by rw [show kd (33 + 3) = 1009 from by decide +kernel]; exact cellK_i (n := 9) (by decide) _)⟩
    | j + 4, hj, _ => exact absurd hj (by omega)
  · have ha : a < kB κ + 33 ∨ kB κ + 37 ≤ a := by
      rcases ho with h | h | h
      · exact Or.inl h
      · exact Or.inr h
      · exact hk0 a e he h
    (repeat (first | exact he | refine (jUp_ne (by omega)).trans ?_ | refine (jRows_out (by omega)).trans ?_))
  exact j_vret X dX2_init_28 rfl (fun n hn => hn)
abbrev rm_X8_init : Room := { frames := 1, cells := 1, slots := 60, locals := 16 }
set_option maxHeartbeats 4000000 in
set_option maxRecDepth 100000 in
theorem c_X8_init {l : Launch} {D : va_G} {B t0 : Nat} (hl9 : l.stackTraces = false) (M : jMem) (b : Nat) (hb : isText b) (hM : M (B + b) = some (.inr (9, [.null, .int 0]))) : jCf l D B t0 yX8_init cX8_init 1 none rm_X8_init [.ref (B + b)] M (fun n => n = B + (b + 1)) (some (0, 0, ())) rvV (fun (_ : Unit) M9 => M9 = memG b (b + 2) D B zS M) (fun n => n = B + (b + 2)) := by
  refine jC_of hl9 (me_X8_init).1 [(0, .ref (B + b))] ⟨by decide +kernel, Nat.le_of_ble_eq_true rfl⟩ rfl (fun κ hl hD hB hT X htab hin => ?_)
  subst hl hD hB hT
  have X : jX κ RX8 cX8_init 1 none := X
  have hk0 : ∀ (a : Nat) (e : va_E), M a = some e → kd (a - kB κ) = 0 → a < kB κ + b ∨ kB κ + (b + 2) ≤ a := fun a e _ h => by
    refine Decidable.byContradiction fun hc => ?_
    have h9 : ∀ j, j < 2 → ¬ kd (b + j) = 0 := fun j hj => by
      match j, hj with
      | 0, _ => rw [show kd (b + 0) = 13 from (kText hb).1.2.2.1]; omega
      | 1, _ => rw [(kText hb).2.2.2.1]; decide
    refine h9 (a - kB κ - b) (by omega) ?_
    rw [show b + (a - kB κ - b) = a - kB κ by omega]
    exact h
  refine j_aload_n X 0 rfl dX8_init_0 rfl ?_
  refine j_objInit X ml_X8_3 im_objInit co_objInit dX8_init_1 ⟨Nat.le_of_ble_eq_true rfl, Nat.le_of_ble_eq_true rfl⟩ ?_
  refine j_aload_n X 0 rfl dX8_init_4 rfl ?_
  refine j_bipush X (60 : Int32) dX8_init_5 (by rfl) ?_
  refine j_newC X (N := 60) 0 0 (by decide) (by decide) (by decide) aw_char dX8_init_7 (by decide) ?_
  refine j_zle (z1 := fun n => n = kB κ + (b + 2)) (fun n9 hn9 => by have hn9 : n9 = _ := hn9; omega) ?_
  refine j_putF X 0 (hin rfl) cf_X8 (by decide) fl_X8_9 dX8_init_9 rfl rfl rfl rfl (Nat.le_add_right _ _) ((jUp_ne (by omega)).trans hM) (Nat.le_of_ble_eq_true rfl) ?_
  refine j_memE (M1 := memG b (b + 2) (kD κ) (kB κ) zS M) (mem_cells (fun j hj hk => ?_) (fun a e he ho => ⟨e, ?_, Or.inl rfl⟩)) ?_
  · match j, hj, hk with
    | 0, _, _ => exact ⟨_, by (repeat (first | exact jUp_at (by omega) | refine (jUp_ne (by omega)).trans ?_ | exact jRows_in (by omega) | refine (jRows_out (by omega)).trans ?_ | exact hM)), Or.inl (by rw [show kd (b + 0) = 13 from (kText hb).1.2.2.1]; rfl)⟩
    | 1, _, _ => exact ⟨_, by (repeat (first | exact jUp_at (by omega) | refine (jUp_ne (by omega)).trans ?_ | exact jRows_in (by omega) | refine (jRows_out (by omega)).trans ?_ | exact hM)), Or.inl (by rw [(kText hb).2.2.2.1]; exact cellK_c (n := 60) (by decide) _)⟩
    | j + 2, hj, _ => exact absurd hj (by omega)
  · have ha : a < kB κ + b ∨ kB κ + (b + 2) ≤ a := by
      rcases ho with h | h | h
      · exact Or.inl h
      · exact Or.inr h
      · exact hk0 a e he h
    (repeat (first | exact he | refine (jUp_ne (by omega)).trans ?_ | refine (jRows_out (by omega)).trans ?_))
  exact j_vret X dX8_init_12 rfl (fun n hn => hn)
abbrev rm_X3_init : Room := { frames := 1, cells := 2, slots := 10, locals := 16 }
set_option maxHeartbeats 4000000 in
set_option maxRecDepth 100000 in
theorem c_X3_init {l : Launch} {D : va_G} {B t0 : Nat} (hl9 : l.stackTraces = false) (M : jMem) (b : Nat) (hb : isFlag b) (hM : M (B + b) = some (.inr (4, [.null, .null, .int 0]))) : jCf l D B t0 yX3_init cX3_init 1 none rm_X3_init [.ref (B + b)] M (fun n => n = B + (b + 1)) (some (0, 0, ())) rvV (fun (_ : Unit) M9 => M9 = memG b (b + 3) D B zS M) (fun n => n = B + (b + 3)) := by
  refine jC_of hl9 (me_X3_init).1 [(0, .ref (B + b))] ⟨by decide +kernel, Nat.le_of_ble_eq_true rfl⟩ rfl (fun κ hl hD hB hT X htab hin => ?_)
  subst hl hD hB hT
  have X : jX κ RX3 cX3_init 1 none := X
  have hk0 : ∀ (a : Nat) (e : va_E), M a = some e → kd (a - kB κ) = 0 → a < kB κ + b ∨ kB κ + (b + 3) ≤ a := fun a e _ h => by
    refine Decidable.byContradiction fun hc => ?_
    have h9 : ∀ j, j < 3 → ¬ kd (b + j) = 0 := fun j hj => by
      match j, hj with
      | 0, _ => rw [show kd (b + 0) = 19 from (kFlag hb).1.2.2.1]; omega
      | 1, _ => rw [(kFlag hb).2.1.2.2.1]; decide
      | 2, _ => rw [(kFlag hb).2.2.2.2.1]; decide
    refine h9 (a - kB κ - b) (by omega) ?_
    rw [show b + (a - kB κ - b) = a - kB κ by omega]
    exact h
  refine j_aload_n X 0 rfl dX3_init_0 rfl ?_
  refine j_objInit X ml_X3_3 im_objInit co_objInit dX3_init_1 ⟨Nat.le_of_ble_eq_true rfl, Nat.le_of_ble_eq_true rfl⟩ ?_
  refine j_aload_n X 0 rfl dX3_init_4 rfl ?_
  refine j_iconst X (5 : Int32) dX3_init_5 (by rfl) ?_
  refine j_newI X (N := 5) 1 5 (by decide) (by decide) (by decide) aw_int dX3_init_6 (by decide) ?_
  refine j_zle (z1 := fun n => n = kB κ + (b + 2)) (fun n9 hn9 => by have hn9 : n9 = _ := hn9; omega) ?_
  refine j_putF X 0 (hin rfl) cf_X3 (by decide) fl_X3_9 dX3_init_8 rfl rfl rfl rfl (Nat.le_add_right _ _) ((jUp_ne (by omega)).trans hM) (Nat.le_of_ble_eq_true rfl) ?_
  refine j_aload_n X 0 rfl dX3_init_11 rfl ?_
  refine j_iconst X (5 : Int32) dX3_init_12 (by rfl) ?_
  refine j_newI X (N := 5) 0 0 (by decide) (by decide) (by decide) aw_int dX3_init_13 (by decide) ?_
  refine j_zle (z1 := fun n => n = kB κ + (b + 3)) (fun n9 hn9 => by have hn9 : n9 = _ := hn9; omega) ?_
  refine j_putF X 1 (hin rfl) cf_X3 (by decide) fl_X3_15 dX3_init_15 rfl rfl rfl rfl (Nat.le_add_right _ _) ((jUp_ne (by omega)).trans jUp_eq) (Nat.le_of_ble_eq_true rfl) ?_
  refine j_memE (M1 := memG b (b + 3) (kD κ) (kB κ) zS M) (mem_cells (fun j hj hk => ?_) (fun a e he ho => ⟨e, ?_, Or.inl rfl⟩)) ?_
  · match j, hj, hk with
    | 0, _, _ => exact ⟨_, by (repeat (first | exact jUp_at (by omega) | refine (jUp_ne (by omega)).trans ?_ | exact jRows_in (by omega) | refine (jRows_out (by omega)).trans ?_ | exact hM)), Or.inl (by rw [show kd (b + 0) = 19 from (kFlag hb).1.2.2.1]; rfl)⟩
    | 1, _, _ => exact ⟨_, by (repeat (first | exact jUp_at (by omega) | refine (jUp_ne (by omega)).trans ?_ | exact jRows_in (by omega) | refine (jRows_out (by omega)).trans ?_ | exact hM)), Or.inl (by rw [(kFlag hb).2.1.2.2.1]; exact cellK_i (n := 5) (by decide) _)⟩
    | 2, _, _ => exact ⟨_, by (repeat (first | exact jUp_at (by omega) | refine (jUp_ne (by omega)).trans ?_ | exact jRows_in (by omega) | refine (jRows_out (by omega)).trans ?_ | exact hM)), Or.inl (by rw [(kFlag hb).2.2.2.2.1]; exact cellK_i (n := 5) (by decide) _)⟩
    | j + 3, hj, _ => exact absurd hj (by omega)
  · have ha : a < kB κ + b ∨ kB κ + (b + 3) ≤ a := by
      rcases ho with h | h | h
      · exact Or.inl h
      · exact Or.inr h
      · exact hk0 a e he h
    (repeat (first | exact he | refine (jUp_ne (by omega)).trans ?_ | refine (jRows_out (by omega)).trans ?_))
  exact j_vret X dX3_init_18 rfl (fun n hn => hn)
abbrev rm_X9_init : Room := { frames := 1, cells := 1, slots := 4, locals := 16 }
set_option maxHeartbeats 4000000 in
set_option maxRecDepth 100000 in
theorem c_X9_init {l : Launch} {D : va_G} {B t0 : Nat} (hl9 : l.stackTraces = false) (M : jMem) (b : Nat) (hb : isTrial b) (hM : M (B + b) = some (.inr (10, [.null, .int 0, .int 0, .int 0]))) : jCf l D B t0 yX9_init cX9_init 1 none rm_X9_init [.ref (B + b)] M (fun n => n = B + (b + 1)) (some (0, 0, ())) rvV (fun (_ : Unit) M9 => M9 = memG b (b + 2) D B (tS b) M) (fun n => n = B + (b + 2)) := by
  refine jC_of hl9 (me_X9_init).1 [(0, .ref (B + b))] ⟨by decide +kernel, Nat.le_of_ble_eq_true rfl⟩ rfl (fun κ hl hD hB hT X htab hin => ?_)
  subst hl hD hB hT
  have X : jX κ RX9 cX9_init 1 none := X
  have hk0 : ∀ (a : Nat) (e : va_E), M a = some e → kd (a - kB κ) = 0 → a < kB κ + b ∨ kB κ + (b + 2) ≤ a := fun a e _ h => by
    refine Decidable.byContradiction fun hc => ?_
    have h9 : ∀ j, j < 2 → ¬ kd (b + j) = 0 := fun j hj => by
      match j, hj with
      | 0, _ => rw [show kd (b + 0) = 20 from (kTrial hb).1.2.2.1]; omega
      | 1, _ => rw [(kTrial hb).2.2.2.1]; decide
    refine h9 (a - kB κ - b) (by omega) ?_
    rw [show b + (a - kB κ - b) = a - kB κ by omega]
    exact h
  refine j_aload_n X 0 rfl dX9_init_0 rfl ?_
  refine j_objInit X ml_X9_3 im_objInit co_objInit dX9_init_1 ⟨Nat.le_of_ble_eq_true rfl, Nat.le_of_ble_eq_true rfl⟩ ?_
  refine j_aload_n X 0 rfl dX9_init_4 rfl ?_
  refine j_iconst X (4 : Int32) dX9_init_5 (by rfl) ?_
  refine j_newI X (N := 4) 0 0 (by decide) (by decide) (by decide) aw_int dX9_init_6 (by decide) ?_
  refine j_zle (z1 := fun n => n = kB κ + (b + 2)) (fun n9 hn9 => by have hn9 : n9 = _ := hn9; omega) ?_
  refine j_putF X 0 (hin rfl) cf_X9 (by decide) fl_X9_9 dX9_init_8 rfl rfl rfl rfl (Nat.le_add_right _ _) ((jUp_ne (by omega)).trans hM) (Nat.le_of_ble_eq_true rfl) ?_
  refine j_aload_n X 0 rfl dX9_init_11 rfl ?_
  refine j_iconst X (-1 : Int32) dX9_init_12 (by rfl) ?_
  refine j_putf X 2 cf_X9 (by decide) fl_X9_15 dX9_init_13 rfl rfl rfl (Nat.le_add_right _ _) (jUp_eq) (Nat.le_of_ble_eq_true rfl) ?_
  refine j_memE (M1 := memG b (b + 2) (kD κ) (kB κ) (tS b) M) (mem_cells (fun j hj hk => ?_) (fun a e he ho => ⟨e, ?_, Or.inl rfl⟩)) ?_
  · match j, hj, hk with
    | 0, _, _ => exact ⟨_, by (repeat (first | exact jUp_at (by omega) | refine (jUp_ne (by omega)).trans ?_ | exact jRows_in (by omega) | refine (jRows_out (by omega)).trans ?_ | exact hM)), Or.inl (by rw [show kd (b + 0) = 20 from (kTrial hb).1.2.2.1]; simp [cellK, tS])⟩
    | 1, _, _ => exact ⟨_, by (repeat (first | exact jUp_at (by omega) | refine (jUp_ne (by omega)).trans ?_ | exact jRows_in (by omega) | refine (jRows_out (by omega)).trans ?_ | exact hM)), Or.inl (by rw [(kTrial hb).2.2.2.1]; exact (cellK_i (n := 4) (by decide) _).trans (by rw [show tS b (b + 1) = (fun _ => 0) from funext fun i => by simp [tS]]))⟩
    | j + 2, hj, _ => exact absurd hj (by omega)
  · have ha : a < kB κ + b ∨ kB κ + (b + 2) ≤ a := by
      rcases ho with h | h | h
      · exact Or.inl h
      · exact Or.inr h
      · exact hk0 a e he h
    (repeat (first | exact he | refine (jUp_ne (by omega)).trans ?_ | refine (jRows_out (by omega)).trans ?_))
  exact j_vret X dX9_init_16 rfl (fun n hn => hn)
abbrev rm_X4_init : Room := { frames := 2, cells := 2, slots := 16, locals := 45 }
set_option maxHeartbeats 4000000 in
set_option maxRecDepth 100000 in
theorem c_X4_init {l : Launch} {D : va_G} {B t0 : Nat} (hl9 : l.stackTraces = false) (M : jMem) (b n : Nat) (hb : isGraph b n) (p : Int32) (hn0 : ¬ p < 0) (hnN : p.toNatClampNeg = n) (hn8 : n ≤ 8) (hM : M (B + b) = some (.inr (5, [.null, .null]))) : jCf l D B t0 yX4_init cX4_init 2 none rm_X4_init [.ref (B + b), .int p] M (fun n => n = B + (b + 1)) (jbin0 (f_X4_arrange zS b n) (fun _ S => some (0, 0, S))) rvV (fun (S9 : jS) M9 => M9 = memG b (b + 3) D B S9 M) (fun n => n = B + (b + 3)) := by
  refine jC_of hl9 (me_X4_init).1 [(0, .ref (B + b)), (1, .int p)] ⟨by decide +kernel, Nat.le_of_ble_eq_true rfl⟩ rfl (fun κ hl hD hB hT X htab hin => ?_)
  subst hl hD hB hT
  have X : jX κ RX4 cX4_init 2 none := X
  have hk0 : ∀ (a : Nat) (e : va_E), M a = some e → kd (a - kB κ) = 0 → a < kB κ + b ∨ kB κ + (b + 3) ≤ a := fun a e _ h => by
    refine Decidable.byContradiction fun hc => ?_
    have h9 : ∀ j, j < 3 → ¬ kd (b + j) = 0 := fun j hj => by
      match j, hj with
      | 0, _ => rw [show kd (b + 0) = 9 from (kGraph hb).1.2.2.1]; omega
      | 1, _ => rw [(kGraph hb).2.1.2.2.1]; omega
      | 2, _ => rw [(kGraph hb).2.2.2.2.1]; omega
    refine h9 (a - kB κ - b) (by omega) ?_
    rw [show b + (a - kB κ - b) = a - kB κ by omega]
    exact h
  have hI : inGraph b (b + 3) b n := ⟨⟨(kGraph hb).1.to (by omega) (by omega), (kGraph hb).2.1.to (by omega) (by omega), (kGraph hb).2.2.to (by omega) (by omega)⟩, kGraph_n hb⟩
  refine j_aload_n X 0 rfl dX4_init_0 rfl ?_
  refine j_objInit X ml_X4_1 im_objInit co_objInit dX4_init_1 ⟨Nat.le_of_ble_eq_true rfl, Nat.le_of_ble_eq_true rfl⟩ ?_
  refine j_aload_n X 0 rfl dX4_init_4 rfl ?_
  refine j_iload_n X 1 rfl dX4_init_5 rfl ?_
  refine j_newI X (N := n) 1 8 hn0 hnN (by omega) aw_int dX4_init_6 ⟨Nat.le_of_ble_eq_true rfl, by show n + 8 ≤ 16; omega⟩ ?_
  refine j_zle (z1 := fun n => n = kB κ + (b + 2)) (fun n9 hn9 => by have hn9 : n9 = _ := hn9; omega) ?_
  refine j_putF X 0 (hin rfl) cf_X4 (by decide) fl_X4_7 dX4_init_8 rfl rfl rfl rfl (Nat.le_add_right _ _) ((jUp_ne (by omega)).trans hM) (Nat.le_of_ble_eq_true rfl) ?_
  refine j_aload_n X 0 rfl dX4_init_11 rfl ?_
  refine j_iload_n X 1 rfl dX4_init_12 rfl ?_
  refine j_newI X (N := n) 0 0 hn0 hnN (by omega) aw_int dX4_init_13 ⟨Nat.le_of_ble_eq_true rfl, by show n + 0 ≤ 8; omega⟩ ?_
  refine j_zle (z1 := fun n => n = kB κ + (b + 3)) (fun n9 hn9 => by have hn9 : n9 = _ := hn9; omega) ?_
  refine j_putF X 1 (hin rfl) cf_X4 (by decide) fl_X4_13 dX4_init_15 rfl rfl rfl rfl (Nat.le_add_right _ _) ((jUp_ne (by omega)).trans jUp_eq) (Nat.le_of_ble_eq_true rfl) ?_
  refine j_memE (M1 := memG b (b + 3) (kD κ) (kB κ) zS M) (mem_cells (fun j hj hk => ?_) (fun a e he ho => ⟨e, ?_, Or.inl rfl⟩)) ?_
  · match j, hj, hk with
    | 0, _, _ => exact ⟨_, by (repeat (first | exact jUp_at (by omega) | refine (jUp_ne (by omega)).trans ?_ | exact jRows_in (by omega) | refine (jRows_out (by omega)).trans ?_ | exact hM)), Or.inl (by rw [show kd (b + 0) = 9 from (kGraph hb).1.2.2.1]; rfl)⟩
    | 1, _, _ => exact ⟨_, by (repeat (first | exact jUp_at (by omega) | refine (jUp_ne (by omega)).trans ?_ | exact jRows_in (by omega) | refine (jRows_out (by omega)).trans ?_ | exact hM)), Or.inl (by rw [(kGraph hb).2.1.2.2.1]; exact cellK_i (n := n) (by omega) _)⟩
    | 2, _, _ => exact ⟨_, by (repeat (first | exact jUp_at (by omega) | refine (jUp_ne (by omega)).trans ?_ | exact jRows_in (by omega) | refine (jRows_out (by omega)).trans ?_ | exact hM)), Or.inl (by rw [(kGraph hb).2.2.2.2.1]; exact cellK_i (n := n) (by omega) _)⟩
    | j + 3, hj, _ => exact absurd hj (by omega)
  · have ha : a < kB κ + b ∨ kB κ + (b + 3) ≤ a := by
      rcases ho with h | h | h
      · exact Or.inl h
      · exact Or.inr h
      · exact hk0 a e he h
    (repeat (first | exact he | refine (jUp_ne (by omega)).trans ?_ | refine (jRows_out (by omega)).trans ?_))
  refine j_aload_n X 0 rfl dX4_init_18 rfl ?_
  refine j_call0V X 0 0 (c3_X4_arrange X.tr zS M (fun n => n = kB κ + (b + 3)) b n hI) me_X4_arrange ml_X4_16 iv_X4_arrange cf_X4 dX4_init_19 (memG_at hI.1.1) (rest := []) rfl rfl (by decide) (by decide) (Nat.le_of_ble_eq_true rfl) (fun v S1 M1 hM1 => ?_)
  subst hM1
  exact j_vret X dX4_init_22 rfl (fun n hn => hn)
abbrev rm_X5_init : Room := { frames := 3, cells := 11, slots := 84, locals := 65 }
set_option maxHeartbeats 4000000 in
set_option maxRecDepth 100000 in
theorem c_X5_init {l : Launch} {D : va_G} {B t0 : Nat} (hl9 : l.stackTraces = false) (M : jMem) (b : Nat) (hb : isPast b) (hM : M (B + b) = some (.inr (6, [.null, .null, .null, .null, .null]))) : jCf l D B t0 yX5_init cX5_init 1 none rm_X5_init [.ref (B + b)] M (fun n => n = B + (b + 1)) (jbin0 (f_X5_forget zS b) (fun _ S => some (0, 0, S))) rvV (fun (S9 : jS) M9 => M9 = memG b (b + 12) D B S9 M) (fun n => n = B + (b + 12)) := by
  refine jC_of hl9 (me_X5_init).1 [(0, .ref (B + b))] ⟨by decide +kernel, Nat.le_of_ble_eq_true rfl⟩ rfl (fun κ hl hD hB hT X htab hin => ?_)
  subst hl hD hB hT
  have X : jX κ RX5 cX5_init 1 none := X
  have hk0 : ∀ (a : Nat) (e : va_E), M a = some e → kd (a - kB κ) = 0 → a < kB κ + b ∨ kB κ + (b + 12) ≤ a := fun a e _ h => by
    refine Decidable.byContradiction fun hc => ?_
    have h9 : ∀ j, j < 12 → ¬ kd (b + j) = 0 := fun j hj => by
      match j, hj with
      | 0, _ => rw [show kd (b + 0) = 17 from (kPast hb).1.2.2.1]; omega
      | 1, _ => rw [(kPast hb).2.1.2.2.1]; decide
      | 2, _ => rw [(kPast hb).2.2.1.2.2.1]; decide
      | 3, _ => rw [show kd (b + 3) = 1008 from ((kPast hb).2.2.2.2.2.2 0 (by decide)).2.2.1]; decide
      | 4, _ => rw [show kd (b + 4) = 1008 from ((kPast hb).2.2.2.2.2.2 1 (by decide)).2.2.1]; decide
      | 5, _ => rw [show kd (b + 5) = 1008 from ((kPast hb).2.2.2.2.2.2 2 (by decide)).2.2.1]; decide
      | 6, _ => rw [show kd (b + 6) = 1008 from ((kPast hb).2.2.2.2.2.2 3 (by decide)).2.2.1]; decide
      | 7, _ => rw [show kd (b + 7) = 1008 from ((kPast hb).2.2.2.2.2.2 4 (by decide)).2.2.1]; decide
      | 8, _ => rw [show kd (b + 8) = 1008 from ((kPast hb).2.2.2.2.2.2 5 (by decide)).2.2.1]; decide
      | 9, _ => rw [(kPast hb).2.2.2.1.2.2.1]; decide
      | 10, _ => rw [(kPast hb).2.2.2.2.1.2.2.1]; decide
      | 11, _ => rw [(kPast hb).2.2.2.2.2.1.2.2.1]; decide
    refine h9 (a - kB κ - b) (by omega) ?_
    rw [show b + (a - kB κ - b) = a - kB κ by omega]
    exact h
  have hI : inPast b (b + 12) b := ⟨(kPast hb).1.to (by omega) (by omega), (kPast hb).2.1.to (by omega) (by omega), (kPast hb).2.2.1.to (by omega) (by omega), (kPast hb).2.2.2.1.to (by omega) (by omega), (kPast hb).2.2.2.2.1.to (by omega) (by omega), (kPast hb).2.2.2.2.2.1.to (by omega) (by omega), fun i hi => ((kPast hb).2.2.2.2.2.2 i hi).to (by omega) (by omega)⟩
  refine j_aload_n X 0 rfl dX5_init_0 rfl ?_
  refine j_objInit X ml_X5_3 im_objInit co_objInit dX5_init_1 ⟨Nat.le_of_ble_eq_true rfl, Nat.le_of_ble_eq_true rfl⟩ ?_
  refine j_aload_n X 0 rfl dX5_init_4 rfl ?_
  refine j_bipush X (6 : Int32) dX5_init_5 (by rfl) ?_
  refine j_newI X (N := 6) 10 78 (by decide) (by decide) (by decide) aw_int dX5_init_7 (by decide) ?_
  refine j_zle (z1 := fun n => n = kB κ + (b + 2)) (fun n9 hn9 => by have hn9 : n9 = _ := hn9; omega) ?_
  refine j_putF X 0 (hin rfl) cf_X5 (by decide) fl_X5_9 dX5_init_9 rfl rfl rfl rfl (Nat.le_add_right _ _) ((jUp_ne (by omega)).trans hM) (Nat.le_of_ble_eq_true rfl) ?_
  refine j_aload_n X 0 rfl dX5_init_12 rfl ?_
  refine j_bipush X (6 : Int32) dX5_init_13 (by rfl) ?_
  refine j_bipush X (8 : Int32) dX5_init_15 (by rfl) ?_
  refine j_mna X (N := 6) (K := 8) 3 24 cl_X5_15 ao_int2 aw_int (by decide) (by decide) (by decide) (by decide) (by decide) dX5_init_17 (by decide) ?_
  refine j_zle (z1 := fun n => n = kB κ + (b + 9)) (fun n9 hn9 => by have hn9 : n9 = _ := hn9; omega) ?_
  refine j_putF X 1 (hin rfl) cf_X5 (by decide) fl_X5_17 dX5_init_21 rfl rfl rfl rfl (Nat.le_add_right _ _) (((jUp_ne (by omega)).trans ((jRows_out (by omega)).trans jUp_eq))) (Nat.le_of_ble_eq_true rfl) ?_
  refine j_aload_n X 0 rfl dX5_init_24 rfl ?_
  refine j_bipush X (8 : Int32) dX5_init_25 (by rfl) ?_
  refine j_newI X (N := 8) 2 16 (by decide) (by decide) (by decide) aw_int dX5_init_27 (by decide) ?_
  refine j_zle (z1 := fun n => n = kB κ + (b + 10)) (fun n9 hn9 => by have hn9 : n9 = _ := hn9; omega) ?_
  refine j_putF X 2 (hin rfl) cf_X5 (by decide) fl_X5_20 dX5_init_29 rfl rfl rfl rfl (Nat.le_add_right _ _) ((jUp_ne (by omega)).trans jUp_eq) (Nat.le_of_ble_eq_true rfl) ?_
  refine j_aload_n X 0 rfl dX5_init_32 rfl ?_
  refine j_bipush X (8 : Int32) dX5_init_33 (by rfl) ?_
  refine j_newI X (N := 8) 1 8 (by decide) (by decide) (by decide) aw_int dX5_init_35 (by decide) ?_
  refine j_zle (z1 := fun n => n = kB κ + (b + 11)) (fun n9 hn9 => by have hn9 : n9 = _ := hn9; omega) ?_
  refine j_putF X 3 (hin rfl) cf_X5 (by decide) fl_X5_23 dX5_init_37 rfl rfl rfl rfl (Nat.le_add_right _ _) ((jUp_ne (by omega)).trans jUp_eq) (Nat.le_of_ble_eq_true rfl) ?_
  refine j_aload_n X 0 rfl dX5_init_40 rfl ?_
  refine j_bipush X (8 : Int32) dX5_init_41 (by rfl) ?_
  refine j_newI X (N := 8) 0 0 (by decide) (by decide) (by decide) aw_int dX5_init_43 (by decide) ?_
  refine j_zle (z1 := fun n => n = kB κ + (b + 12)) (fun n9 hn9 => by have hn9 : n9 = _ := hn9; omega) ?_
  refine j_putF X 4 (hin rfl) cf_X5 (by decide) fl_X5_26 dX5_init_45 rfl rfl rfl rfl (Nat.le_add_right _ _) ((jUp_ne (by omega)).trans jUp_eq) (Nat.le_of_ble_eq_true rfl) ?_
  refine j_memE (M1 := memG b (b + 12) (kD κ) (kB κ) zS M) (mem_cells (fun j hj hk => ?_) (fun a e he ho => ⟨e, ?_, Or.inl rfl⟩)) ?_
  · match j, hj, hk with
    | 0, _, _ => exact ⟨_, by (repeat (first | exact jUp_at (by omega) | refine (jUp_ne (by omega)).trans ?_ | exact jRows_in (by omega) | refine (jRows_out (by omega)).trans ?_ | exact hM)), Or.inl (by rw [show kd (b + 0) = 17 from (kPast hb).1.2.2.1]; rfl)⟩
    | 1, _, _ => exact ⟨_, by (repeat (first | exact jUp_at (by omega) | refine (jUp_ne (by omega)).trans ?_ | exact jRows_in (by omega) | refine (jRows_out (by omega)).trans ?_ | exact hM)), Or.inl (by rw [(kPast hb).2.1.2.2.1]; exact cellK_i (n := 6) (by decide) _)⟩
    | 2, _, _ => exact ⟨_, by (repeat (first | exact jUp_at (by omega) | refine (jUp_ne (by omega)).trans ?_ | exact jRows_in (by omega) | refine (jRows_out (by omega)).trans ?_ | exact hM)), Or.inr (by rw [(kPast hb).2.2.1.2.2.1]; exact ⟨_, _, _, _, rfl, rfl, fun i hi => by rw [if_pos hi]; exact congrArg some (by omega)⟩)⟩
    | 3, _, _ => exact ⟨_, by (repeat (first | exact jUp_at (by omega) | refine (jUp_ne (by omega)).trans ?_ | exact jRows_in (by omega) | refine (jRows_out (by omega)).trans ?_ | exact hM)), Or.inl (by rw [show kd (b + 3) = 1008 from ((kPast hb).2.2.2.2.2.2 0 (by decide)).2.2.1]; exact cellK_i (n := 8) (by decide) _)⟩
    | 4, _, _ => exact ⟨_, by (repeat (first | exact jUp_at (by omega) | refine (jUp_ne (by omega)).trans ?_ | exact jRows_in (by omega) | refine (jRows_out (by omega)).trans ?_ | exact hM)), Or.inl (by rw [show kd (b + 4) = 1008 from ((kPast hb).2.2.2.2.2.2 1 (by decide)).2.2.1]; exact cellK_i (n := 8) (by decide) _)⟩
    | 5, _, _ => exact ⟨_, by (repeat (first | exact jUp_at (by omega) | refine (jUp_ne (by omega)).trans ?_ | exact jRows_in (by omega) | refine (jRows_out (by omega)).trans ?_ | exact hM)), Or.inl (by rw [show kd (b + 5) = 1008 from ((kPast hb).2.2.2.2.2.2 2 (by decide)).2.2.1]; exact cellK_i (n := 8) (by decide) _)⟩
    | 6, _, _ => exact ⟨_, by (repeat (first | exact jUp_at (by omega) | refine (jUp_ne (by omega)).trans ?_ | exact jRows_in (by omega) | refine (jRows_out (by omega)).trans ?_ | exact hM)), Or.inl (by rw [show kd (b + 6) = 1008 from ((kPast hb).2.2.2.2.2.2 3 (by decide)).2.2.1]; exact cellK_i (n := 8) (by decide) _)⟩
    | 7, _, _ => exact ⟨_, by (repeat (first | exact jUp_at (by omega) | refine (jUp_ne (by omega)).trans ?_ | exact jRows_in (by omega) | refine (jRows_out (by omega)).trans ?_ | exact hM)), Or.inl (by rw [show kd (b + 7) = 1008 from ((kPast hb).2.2.2.2.2.2 4 (by decide)).2.2.1]; exact cellK_i (n := 8) (by decide) _)⟩
    | 8, _, _ => exact ⟨_, by (repeat (first | exact jUp_at (by omega) | refine (jUp_ne (by omega)).trans ?_ | exact jRows_in (by omega) | refine (jRows_out (by omega)).trans ?_ | exact hM)), Or.inl (by rw [show kd (b + 8) = 1008 from ((kPast hb).2.2.2.2.2.2 5 (by decide)).2.2.1]; exact cellK_i (n := 8) (by decide) _)⟩
    | 9, _, _ => exact ⟨_, by (repeat (first | exact jUp_at (by omega) | refine (jUp_ne (by omega)).trans ?_ | exact jRows_in (by omega) | refine (jRows_out (by omega)).trans ?_ | exact hM)), Or.inl (by rw [(kPast hb).2.2.2.1.2.2.1]; exact cellK_i (n := 8) (by decide) _)⟩
    | 10, _, _ => exact ⟨_, by (repeat (first | exact jUp_at (by omega) | refine (jUp_ne (by omega)).trans ?_ | exact jRows_in (by omega) | refine (jRows_out (by omega)).trans ?_ | exact hM)), Or.inl (by rw [(kPast hb).2.2.2.2.1.2.2.1]; exact cellK_i (n := 8) (by decide) _)⟩
    | 11, _, _ => exact ⟨_, by (repeat (first | exact jUp_at (by omega) | refine (jUp_ne (by omega)).trans ?_ | exact jRows_in (by omega) | refine (jRows_out (by omega)).trans ?_ | exact hM)), Or.inl (by rw [(kPast hb).2.2.2.2.2.1.2.2.1]; exact cellK_i (n := 8) (by decide) _)⟩
    | j + 12, hj, _ => exact absurd hj (by omega)
  · have ha : a < kB κ + b ∨ kB κ + (b + 12) ≤ a := by
      rcases ho with h | h | h
      · exact Or.inl h
      · exact Or.inr h
      · exact hk0 a e he h
    (repeat (first | exact he | refine (jUp_ne (by omega)).trans ?_ | refine (jRows_out (by omega)).trans ?_))
  refine j_aload_n X 0 rfl dX5_init_48 rfl ?_
  refine j_call0V X 0 0 (c3_X5_forget X.tr zS M (fun n => n = kB κ + (b + 12)) b hI) me_X5_forget ml_X5_29 iv_X5_forget cf_X5 dX5_init_49 (memG_at hI.1) (rest := []) rfl rfl (by decide) (by decide) (Nat.le_of_ble_eq_true rfl) (fun v S1 M1 hM1 => ?_)
  subst hM1
  exact j_vret X dX5_init_52 rfl (fun n hn => hn)
end CTR
