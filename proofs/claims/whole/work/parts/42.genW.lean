section GNW
def f_L_setAttribute (S : jS) (L : jLg) (w : Nat → Int64) (p1 : Int32) (p2 : Int32) (p3 : Int32) : Option (jR jLS) := jcat (f_X10_setAttribute S p1 p2 p3) (fun v S1 => some (0, (0 : Int32), (S1, L, vp_updL w (0 : Int32).toNatClampNeg v.toInt64))) (fun t S1 => if t = 1 then some (0, (1 : Int32), (S1, L, w)) else none)
abbrev rm_L_setAttribute : Room := { frames := 9, cells := 3, slots := 18, locals := 161 }
abbrev hh_L_setAttribute : List (Nat × Nat × Nat × Nat) := [(0, 12, 15, 13)]
set_option maxHeartbeats 4000000 in
set_option maxRecDepth 100000 in
theorem c_L_setAttribute {l : Launch} {D : va_G} {B t0 : Nat} (hl9 : l.stackTraces = false) (S : jS) (X9 : jMem) (L : jLg) (w : Nat → Int64) (hL : LogX D B t0 L X9) (hw : X9 (B + 387) = some (outC D w)) (p1 : Int32) (p2 : Int32) (p3 : Int32) : jCfH l D B t0 yL_setAttribute cL_setAttribute 6 (some .int) hh_L_setAttribute rm_L_setAttribute [.ref (B + 0), .int p1, .int p2, .int p3, .ref (B + 387)] (memG 0 358 D B S X9) (zD B) (f_L_setAttribute S L w p1 p2 p3) rvI (LPM D B t0 X9) (zD B) := by
  refine jC_ofH hl9 [(0, .ref (B + 0)), (1, .int p1), (2, .int p2), (3, .int p3), (4, .ref (B + 387))] ⟨by decide +kernel, Nat.le_of_ble_eq_true rfl⟩ rfl (fun κ hl hD hB hT X htab => ?_)
  subst hl hD hB hT
  have X : jX κ RL cL_setAttribute 6 (some .int) := X
  unfold f_L_setAttribute
  refine j_aload X 4 rfl dL_setAttribute_0 ?_
  refine j_iconst X (0 : Int32) dL_setAttribute_2 (by rfl) ?_
  refine j_aload_n X 0 rfl dL_setAttribute_3 rfl ?_
  refine j_iload_n X 1 rfl dL_setAttribute_4 rfl ?_
  refine j_iload_n X 2 rfl dL_setAttribute_5 rfl ?_
  refine j_iload_n X 3 rfl dL_setAttribute_6 rfl ?_
  refine j_callVT X 0 0 (fun t => match t with | 0 => 15 | 1 => 0 | _ => 0) (c_X10_setAttribute X.tr S X9 (zD (kB κ)) p1 p2 p3) me_X10_setAttribute ml_L_7 iv_X10_setAttribute cf_X10 dL_setAttribute_7 (memG_at kf_0) (rest := [.int 0, .ref (kB κ + 387)]) rfl rfl (by decide) (by decide) (Nat.le_of_ble_eq_true rfl) zD_mono (fun t S1 hne => ?_) (fun t S1 M1 q hM1 => ?_) (fun v S1 M1 hM1 => ?_)
  · match t, hne with
    | 0, _ => exact ⟨[], (⟨0, 12, 15, 13⟩ : ExceptionTableEntry), [], htab, (fun z hz => nomatch hz), by decide, by decide, cl_L_13, ca_E1, rfl⟩
    | 1, hne => exact absurd rfl hne
    | 2, hne => exact absurd rfl hne
    | t + 3, hne => exact absurd rfl hne
  · subst hM1
    have hw1 := hw
    have hL1 := hL
    have hf1 : ∀ q : Nat, q < kB κ + 387 → q ≠ kB κ + 66 → X9 q = X9 q := fun _ _ _ => rfl
    match t with
    | 0 =>
      refine j_eq (o1 := some (0, (1 : Int32), (S1, L, w))) rfl (j_pc (pc1 := 15) rfl ?_)
      refine j_astore X [(5, .ref q), (0, .ref (kB κ + 0)), (1, .int p1), (2, .int p2), (3, .int p3), (4, .ref (kB κ + 387))] dL_setAttribute_15 (by decide) rfl ?_
      refine j_iconst X (1 : Int32) dL_setAttribute_17 (by rfl) ?_
      exact j_iret X dL_setAttribute_18 ⟨_, rfl, hL1, hw1, hf1⟩ (fun _ h => h)
    | 1 => exact j_eq (o1 := none) rfl j_none
    | 2 => exact j_eq (o1 := none) rfl j_none
    | t + 3 => exact j_eq (o1 := none) rfl j_none
  · subst hM1
    have hw1 := hw
    have hL1 := hL
    have hf1 : ∀ q : Nat, q < kB κ + 387 → q ≠ kB κ + 66 → X9 q = X9 q := fun _ _ _ => rfl
    refine j_st (st1 := [.int v, .int 0, .ref (kB κ + 387)]) rfl ?_
    refine j_i2l X dL_setAttribute_10 ?_
    refine j_last X v01 dL_setAttribute_11 (Nat.le_add_right _ _) ((memG_out (Or.inr (by omega))).trans hw1) ?_
    rw [memG_upX (by omega)]
    refine j_goto X 19 dL_setAttribute_12 (by decide) ?_
    refine j_iconst X (0 : Int32) dL_setAttribute_19 (by rfl) ?_
    exact j_iret X dL_setAttribute_20 ⟨_, rfl, hL1.out, jUp_eq, fun q q1 q2 => (jUp_ne (by omega)).trans (hf1 q q1 q2)⟩ (fun _ h => h)
def f_L_setTag (S : jS) (L : jLg) (w : Nat → Int64) (p1 : Int32) (p2 : Int32) (p3 : Int32) : Option (jR jLS) := jcat (f_X10_setTag S p1 p2 p3) (fun v S1 => (if v = (0 : Int32) then some (0, (0 : Int32), (S1, L, vp_updL w (0 : Int32).toNatClampNeg (0 : Int64))) else some (0, (0 : Int32), (S1, L, vp_updL w (0 : Int32).toNatClampNeg (1 : Int64))))) (fun t S1 => if t = 1 then some (0, (1 : Int32), (S1, L, w)) else none)
abbrev rm_L_setTag : Room := { frames := 9, cells := 2, slots := 12, locals := 161 }
abbrev hh_L_setTag : List (Nat × Nat × Nat × Nat) := [(0, 19, 22, 13)]
set_option maxHeartbeats 4000000 in
set_option maxRecDepth 100000 in
theorem c_L_setTag {l : Launch} {D : va_G} {B t0 : Nat} (hl9 : l.stackTraces = false) (S : jS) (X9 : jMem) (L : jLg) (w : Nat → Int64) (hL : LogX D B t0 L X9) (hw : X9 (B + 387) = some (outC D w)) (p1 : Int32) (p2 : Int32) (p3 : Int32) : jCfH l D B t0 yL_setTag cL_setTag 6 (some .int) hh_L_setTag rm_L_setTag [.ref (B + 0), .int p1, .int p2, .int p3, .ref (B + 387)] (memG 0 358 D B S X9) (zD B) (f_L_setTag S L w p1 p2 p3) rvI (LPM D B t0 X9) (zD B) := by
  refine jC_ofH hl9 [(0, .ref (B + 0)), (1, .int p1), (2, .int p2), (3, .int p3), (4, .ref (B + 387))] ⟨by decide +kernel, Nat.le_of_ble_eq_true rfl⟩ rfl (fun κ hl hD hB hT X htab => ?_)
  subst hl hD hB hT
  have X : jX κ RL cL_setTag 6 (some .int) := X
  unfold f_L_setTag
  refine j_aload X 4 rfl dL_setTag_0 ?_
  refine j_iconst X (0 : Int32) dL_setTag_2 (by rfl) ?_
  refine j_aload_n X 0 rfl dL_setTag_3 rfl ?_
  refine j_iload_n X 1 rfl dL_setTag_4 rfl ?_
  refine j_iload_n X 2 rfl dL_setTag_5 rfl ?_
  refine j_iload_n X 3 rfl dL_setTag_6 rfl ?_
  refine j_callVT X 0 0 (fun t => match t with | 0 => 22 | 1 => 0 | _ => 0) (c_X10_setTag X.tr S X9 (zD (kB κ)) p1 p2 p3) me_X10_setTag ml_L_15 iv_X10_setTag cf_X10 dL_setTag_7 (memG_at kf_0) (rest := [.int 0, .ref (kB κ + 387)]) rfl rfl (by decide) (by decide) (Nat.le_of_ble_eq_true rfl) zD_mono (fun t S1 hne => ?_) (fun t S1 M1 q hM1 => ?_) (fun v S1 M1 hM1 => ?_)
  · match t, hne with
    | 0, _ => exact ⟨[], (⟨0, 19, 22, 13⟩ : ExceptionTableEntry), [], htab, (fun z hz => nomatch hz), by decide, by decide, cl_L_13, ca_E1, rfl⟩
    | 1, hne => exact absurd rfl hne
    | 2, hne => exact absurd rfl hne
    | t + 3, hne => exact absurd rfl hne
  · subst hM1
    have hw1 := hw
    have hL1 := hL
    have hf1 : ∀ q : Nat, q < kB κ + 387 → q ≠ kB κ + 66 → X9 q = X9 q := fun _ _ _ => rfl
    match t with
    | 0 =>
      refine j_eq (o1 := some (0, (1 : Int32), (S1, L, w))) rfl (j_pc (pc1 := 22) rfl ?_)
      refine j_astore X [(5, .ref q), (0, .ref (kB κ + 0)), (1, .int p1), (2, .int p2), (3, .int p3), (4, .ref (kB κ + 387))] dL_setTag_22 (by decide) rfl ?_
      refine j_iconst X (1 : Int32) dL_setTag_24 (by rfl) ?_
      exact j_iret X dL_setTag_25 ⟨_, rfl, hL1, hw1, hf1⟩ (fun _ h => h)
    | 1 => exact j_eq (o1 := none) rfl j_none
    | 2 => exact j_eq (o1 := none) rfl j_none
    | t + 3 => exact j_eq (o1 := none) rfl j_none
  · subst hM1
    have hw1 := hw
    have hL1 := hL
    have hf1 : ∀ q : Nat, q < kB κ + 387 → q ≠ kB κ + 66 → X9 q = X9 q := fun _ _ _ => rfl
    refine j_st (st1 := [.int v, .int 0, .ref (kB κ + 387)]) rfl ?_
    refine j_if_eq X 17 dL_setTag_10 (by decide) ?_ ?_
    · refine j_lconst X (0 : Int64) dL_setTag_17 (by rfl) ?_
      refine j_last X v01 dL_setTag_18 (Nat.le_add_right _ _) ((memG_out (Or.inr (by omega))).trans hw1) ?_
      rw [memG_upX (by omega)]
      refine j_goto X 26 dL_setTag_19 (by decide) ?_
      refine j_iconst X (0 : Int32) dL_setTag_26 (by rfl) ?_
      exact j_iret X dL_setTag_27 ⟨_, rfl, hL1.out, jUp_eq, fun q q1 q2 => (jUp_ne (by omega)).trans (hf1 q q1 q2)⟩ (fun _ h => h)
    · refine j_lconst X (1 : Int64) dL_setTag_13 (by rfl) ?_
      refine j_goto X 18 dL_setTag_14 (by decide) ?_
      refine j_last X v01 dL_setTag_18 (Nat.le_add_right _ _) ((memG_out (Or.inr (by omega))).trans hw1) ?_
      rw [memG_upX (by omega)]
      refine j_goto X 26 dL_setTag_19 (by decide) ?_
      refine j_iconst X (0 : Int32) dL_setTag_26 (by rfl) ?_
      exact j_iret X dL_setTag_27 ⟨_, rfl, hL1.out, jUp_eq, fun q q1 q2 => (jUp_ne (by omega)).trans (hf1 q q1 q2)⟩ (fun _ h => h)
def f_L_type (S : jS) (L : jLg) (w : Nat → Int64) (p1 : Int32) (p2 : Int32) : Option (jR jLS) := jcat (f_X10_type S p1 p2) (fun v S1 => some (0, (0 : Int32), (S1, L, vp_updL w (0 : Int32).toNatClampNeg v.toInt64))) (fun t S1 => if t = 1 then some (0, (1 : Int32), (S1, L, w)) else if t = 2 then some (0, (2 : Int32), (S1, L, w)) else none)
abbrev rm_L_type : Room := { frames := 9, cells := 3, slots := 18, locals := 155 }
abbrev hh_L_type : List (Nat × Nat × Nat × Nat) := [(0, 10, 13, 13), (0, 10, 17, 23)]
set_option maxHeartbeats 4000000 in
set_option maxRecDepth 100000 in
theorem c_L_type {l : Launch} {D : va_G} {B t0 : Nat} (hl9 : l.stackTraces = false) (S : jS) (X9 : jMem) (L : jLg) (w : Nat → Int64) (hL : LogX D B t0 L X9) (hw : X9 (B + 387) = some (outC D w)) (p1 : Int32) (p2 : Int32) : jCfH l D B t0 yL_type cL_type 5 (some .int) hh_L_type rm_L_type [.ref (B + 0), .int p1, .int p2, .ref (B + 387)] (memG 0 358 D B S X9) (zD B) (f_L_type S L w p1 p2) rvI (LPM D B t0 X9) (zD B) := by
  refine jC_ofH hl9 [(0, .ref (B + 0)), (1, .int p1), (2, .int p2), (3, .ref (B + 387))] ⟨by decide +kernel, Nat.le_of_ble_eq_true rfl⟩ rfl (fun κ hl hD hB hT X htab => ?_)
  subst hl hD hB hT
  have X : jX κ RL cL_type 5 (some .int) := X
  unfold f_L_type
  refine j_aload_n X 3 rfl dL_type_0 rfl ?_
  refine j_iconst X (0 : Int32) dL_type_1 (by rfl) ?_
  refine j_aload_n X 0 rfl dL_type_2 rfl ?_
  refine j_iload_n X 1 rfl dL_type_3 rfl ?_
  refine j_iload_n X 2 rfl dL_type_4 rfl ?_
  refine j_callVT X 0 0 (fun t => match t with | 0 => 13 | 1 => 17 | _ => 0) (c_X10_type X.tr S X9 (zD (kB κ)) p1 p2) me_X10_type ml_L_19 iv_X10_type cf_X10 dL_type_5 (memG_at kf_0) (rest := [.int 0, .ref (kB κ + 387)]) rfl rfl (by decide) (by decide) (Nat.le_of_ble_eq_true rfl) zD_mono (fun t S1 hne => ?_) (fun t S1 M1 q hM1 => ?_) (fun v S1 M1 hM1 => ?_)
  · match t, hne with
    | 0, _ => exact ⟨[], (⟨0, 10, 13, 13⟩ : ExceptionTableEntry), [(⟨0, 10, 17, 23⟩ : ExceptionTableEntry)], htab, (fun z hz => nomatch hz), by decide, by decide, cl_L_13, ca_E1, rfl⟩
    | 1, _ => exact ⟨[(⟨0, 10, 13, 13⟩ : ExceptionTableEntry)], (⟨0, 10, 17, 23⟩ : ExceptionTableEntry), [], htab, (fun z hz => by
        simp only [List.mem_cons, List.not_mem_nil, or_false] at hz
        subst hz
        exact Or.inr ⟨by decide, _, cl_L_13, X.k.1.2.1⟩), by decide, by decide, cl_L_23, ca_E2, rfl⟩
    | 2, hne => exact absurd rfl hne
    | t + 3, hne => exact absurd rfl hne
  · subst hM1
    have hw1 := hw
    have hL1 := hL
    have hf1 : ∀ q : Nat, q < kB κ + 387 → q ≠ kB κ + 66 → X9 q = X9 q := fun _ _ _ => rfl
    match t with
    | 0 =>
      refine j_eq (o1 := some (0, (1 : Int32), (S1, L, w))) rfl (j_pc (pc1 := 13) rfl ?_)
      refine j_astore X [(4, .ref q), (0, .ref (kB κ + 0)), (1, .int p1), (2, .int p2), (3, .ref (kB κ + 387))] dL_type_13 (by decide) rfl ?_
      refine j_iconst X (1 : Int32) dL_type_15 (by rfl) ?_
      exact j_iret X dL_type_16 ⟨_, rfl, hL1, hw1, hf1⟩ (fun _ h => h)
    | 1 =>
      refine j_eq (o1 := some (0, (2 : Int32), (S1, L, w))) rfl (j_pc (pc1 := 17) rfl ?_)
      refine j_astore X [(4, .ref q), (0, .ref (kB κ + 0)), (1, .int p1), (2, .int p2), (3, .ref (kB κ + 387))] dL_type_17 (by decide) rfl ?_
      refine j_iconst X (2 : Int32) dL_type_19 (by rfl) ?_
      exact j_iret X dL_type_20 ⟨_, rfl, hL1, hw1, hf1⟩ (fun _ h => h)
    | 2 => exact j_eq (o1 := none) rfl j_none
    | t + 3 => exact j_eq (o1 := none) rfl j_none
  · subst hM1
    have hw1 := hw
    have hL1 := hL
    have hf1 : ∀ q : Nat, q < kB κ + 387 → q ≠ kB κ + 66 → X9 q = X9 q := fun _ _ _ => rfl
    refine j_st (st1 := [.int v, .int 0, .ref (kB κ + 387)]) rfl ?_
    refine j_i2l X dL_type_8 ?_
    refine j_last X v01 dL_type_9 (Nat.le_add_right _ _) ((memG_out (Or.inr (by omega))).trans hw1) ?_
    rw [memG_upX (by omega)]
    refine j_goto X 21 dL_type_10 (by decide) ?_
    refine j_iconst X (0 : Int32) dL_type_21 (by rfl) ?_
    exact j_iret X dL_type_22 ⟨_, rfl, hL1.out, jUp_eq, fun q q1 q2 => (jUp_ne (by omega)).trans (hf1 q q1 q2)⟩ (fun _ h => h)
def f_L_erase (S : jS) (L : jLg) (w : Nat → Int64) (p1 : Int32) (p2 : Int32) : Option (jR jLS) := jcat (f_X10_erase S p1 p2) (fun v S1 => some (0, (0 : Int32), (S1, L, vp_updL w (0 : Int32).toNatClampNeg v.toInt64))) (fun t S1 => if t = 1 then some (0, (1 : Int32), (S1, L, w)) else none)
abbrev rm_L_erase : Room := { frames := 9, cells := 2, slots := 12, locals := 155 }
abbrev hh_L_erase : List (Nat × Nat × Nat × Nat) := [(0, 10, 13, 13)]
set_option maxHeartbeats 4000000 in
set_option maxRecDepth 100000 in
theorem c_L_erase {l : Launch} {D : va_G} {B t0 : Nat} (hl9 : l.stackTraces = false) (S : jS) (X9 : jMem) (L : jLg) (w : Nat → Int64) (hL : LogX D B t0 L X9) (hw : X9 (B + 387) = some (outC D w)) (p1 : Int32) (p2 : Int32) : jCfH l D B t0 yL_erase cL_erase 5 (some .int) hh_L_erase rm_L_erase [.ref (B + 0), .int p1, .int p2, .ref (B + 387)] (memG 0 358 D B S X9) (zD B) (f_L_erase S L w p1 p2) rvI (LPM D B t0 X9) (zD B) := by
  refine jC_ofH hl9 [(0, .ref (B + 0)), (1, .int p1), (2, .int p2), (3, .ref (B + 387))] ⟨by decide +kernel, Nat.le_of_ble_eq_true rfl⟩ rfl (fun κ hl hD hB hT X htab => ?_)
  subst hl hD hB hT
  have X : jX κ RL cL_erase 5 (some .int) := X
  unfold f_L_erase
  refine j_aload_n X 3 rfl dL_erase_0 rfl ?_
  refine j_iconst X (0 : Int32) dL_erase_1 (by rfl) ?_
  refine j_aload_n X 0 rfl dL_erase_2 rfl ?_
  refine j_iload_n X 1 rfl dL_erase_3 rfl ?_
  refine j_iload_n X 2 rfl dL_erase_4 rfl ?_
  refine j_callVT X 0 0 (fun t => match t with | 0 => 13 | 1 => 0 | _ => 0) (c_X10_erase X.tr S X9 (zD (kB κ)) p1 p2) me_X10_erase ml_L_25 iv_X10_erase cf_X10 dL_erase_5 (memG_at kf_0) (rest := [.int 0, .ref (kB κ + 387)]) rfl rfl (by decide) (by decide) (Nat.le_of_ble_eq_true rfl) zD_mono (fun t S1 hne => ?_) (fun t S1 M1 q hM1 => ?_) (fun v S1 M1 hM1 => ?_)
  · match t, hne with
    | 0, _ => exact ⟨[], (⟨0, 10, 13, 13⟩ : ExceptionTableEntry), [], htab, (fun z hz => nomatch hz), by decide, by decide, cl_L_13, ca_E1, rfl⟩
    | 1, hne => exact absurd rfl hne
    | 2, hne => exact absurd rfl hne
    | t + 3, hne => exact absurd rfl hne
  · subst hM1
    have hw1 := hw
    have hL1 := hL
    have hf1 : ∀ q : Nat, q < kB κ + 387 → q ≠ kB κ + 66 → X9 q = X9 q := fun _ _ _ => rfl
    match t with
    | 0 =>
      refine j_eq (o1 := some (0, (1 : Int32), (S1, L, w))) rfl (j_pc (pc1 := 13) rfl ?_)
      refine j_astore X [(4, .ref q), (0, .ref (kB κ + 0)), (1, .int p1), (2, .int p2), (3, .ref (kB κ + 387))] dL_erase_13 (by decide) rfl ?_
      refine j_iconst X (1 : Int32) dL_erase_15 (by rfl) ?_
      exact j_iret X dL_erase_16 ⟨_, rfl, hL1, hw1, hf1⟩ (fun _ h => h)
    | 1 => exact j_eq (o1 := none) rfl j_none
    | 2 => exact j_eq (o1 := none) rfl j_none
    | t + 3 => exact j_eq (o1 := none) rfl j_none
  · subst hM1
    have hw1 := hw
    have hL1 := hL
    have hf1 : ∀ q : Nat, q < kB κ + 387 → q ≠ kB κ + 66 → X9 q = X9 q := fun _ _ _ => rfl
    refine j_st (st1 := [.int v, .int 0, .ref (kB κ + 387)]) rfl ?_
    refine j_i2l X dL_erase_8 ?_
    refine j_last X v01 dL_erase_9 (Nat.le_add_right _ _) ((memG_out (Or.inr (by omega))).trans hw1) ?_
    rw [memG_upX (by omega)]
    refine j_goto X 17 dL_erase_10 (by decide) ?_
    refine j_iconst X (0 : Int32) dL_erase_17 (by rfl) ?_
    exact j_iret X dL_erase_18 ⟨_, rfl, hL1.out, jUp_eq, fun q q1 q2 => (jUp_ne (by omega)).trans (hf1 q q1 q2)⟩ (fun _ h => h)
def f_L_sign (S : jS) (L : jLg) (w : Nat → Int64) (p1 : Int32) (p2 : Int32) : Option (jR jLS) := jcat (f_X10_sign S p1 p2) (fun v S1 => some (0, (0 : Int32), (S, L, vp_updL w (0 : Int32).toNatClampNeg v.toInt64))) (fun t S1 => if t = 1 then some (0, (1 : Int32), (S, L, w)) else if t = 3 then some (0, (2 : Int32), (S, L, w)) else none)
abbrev rm_L_sign : Room := { frames := 9, cells := 2, slots := 12, locals := 155 }
abbrev hh_L_sign : List (Nat × Nat × Nat × Nat) := [(0, 10, 13, 13), (0, 10, 17, 31)]
set_option maxHeartbeats 4000000 in
set_option maxRecDepth 100000 in
theorem c_L_sign {l : Launch} {D : va_G} {B t0 : Nat} (hl9 : l.stackTraces = false) (S : jS) (X9 : jMem) (L : jLg) (w : Nat → Int64) (hL : LogX D B t0 L X9) (hw : X9 (B + 387) = some (outC D w)) (p1 : Int32) (p2 : Int32) : jCfH l D B t0 yL_sign cL_sign 5 (some .int) hh_L_sign rm_L_sign [.ref (B + 0), .int p1, .int p2, .ref (B + 387)] (memG 0 358 D B S X9) (zD B) (f_L_sign S L w p1 p2) rvI (LPM D B t0 X9) (zD B) := by
  refine jC_ofH hl9 [(0, .ref (B + 0)), (1, .int p1), (2, .int p2), (3, .ref (B + 387))] ⟨by decide +kernel, Nat.le_of_ble_eq_true rfl⟩ rfl (fun κ hl hD hB hT X htab => ?_)
  subst hl hD hB hT
  have X : jX κ RL cL_sign 5 (some .int) := X
  unfold f_L_sign
  refine j_aload_n X 3 rfl dL_sign_0 rfl ?_
  refine j_iconst X (0 : Int32) dL_sign_1 (by rfl) ?_
  refine j_aload_n X 0 rfl dL_sign_2 rfl ?_
  refine j_iload_n X 1 rfl dL_sign_3 rfl ?_
  refine j_iload_n X 2 rfl dL_sign_4 rfl ?_
  refine j_callVT X 0 0 (fun t => match t with | 0 => 13 | 1 => 0 | _ => 17) (c_X10_sign X.tr S X9 (zD (kB κ)) p1 p2) me_X10_sign ml_L_28 iv_X10_sign cf_X10 dL_sign_5 (memG_at kf_0) (rest := [.int 0, .ref (kB κ + 387)]) rfl rfl (by decide) (by decide) (Nat.le_of_ble_eq_true rfl) zD_mono (fun t S1 hne => ?_) (fun t S1 M1 q hM1 => ?_) (fun v S1 M1 hM1 => ?_)
  · match t, hne with
    | 0, _ => exact ⟨[], (⟨0, 10, 13, 13⟩ : ExceptionTableEntry), [(⟨0, 10, 17, 31⟩ : ExceptionTableEntry)], htab, (fun z hz => nomatch hz), by decide, by decide, cl_L_13, ca_E1, rfl⟩
    | 1, hne => exact absurd rfl hne
    | 2, _ => exact ⟨[(⟨0, 10, 13, 13⟩ : ExceptionTableEntry)], (⟨0, 10, 17, 31⟩ : ExceptionTableEntry), [], htab, (fun z hz => by
        simp only [List.mem_cons, List.not_mem_nil, or_false] at hz
        subst hz
        exact Or.inr ⟨by decide, _, cl_L_13, X.k.1.2.2.1⟩), by decide, by decide, cl_L_31, ca_E3, rfl⟩
    | t + 3, hne => exact absurd rfl hne
  · subst hM1
    have hw1 := hw
    have hL1 := hL
    have hf1 : ∀ q : Nat, q < kB κ + 387 → q ≠ kB κ + 66 → X9 q = X9 q := fun _ _ _ => rfl
    match t with
    | 0 =>
      refine j_eq (o1 := some (0, (1 : Int32), (S, L, w))) rfl (j_pc (pc1 := 13) rfl ?_)
      refine j_astore X [(4, .ref q), (0, .ref (kB κ + 0)), (1, .int p1), (2, .int p2), (3, .ref (kB κ + 387))] dL_sign_13 (by decide) rfl ?_
      refine j_iconst X (1 : Int32) dL_sign_15 (by rfl) ?_
      exact j_iret X dL_sign_16 ⟨_, rfl, hL1, hw1, hf1⟩ (fun _ h => h)
    | 1 => exact j_eq (o1 := none) rfl j_none
    | 2 =>
      refine j_eq (o1 := some (0, (2 : Int32), (S, L, w))) rfl (j_pc (pc1 := 17) rfl ?_)
      refine j_astore X [(4, .ref q), (0, .ref (kB κ + 0)), (1, .int p1), (2, .int p2), (3, .ref (kB κ + 387))] dL_sign_17 (by decide) rfl ?_
      refine j_iconst X (2 : Int32) dL_sign_19 (by rfl) ?_
      exact j_iret X dL_sign_20 ⟨_, rfl, hL1, hw1, hf1⟩ (fun _ h => h)
    | t + 3 => exact j_eq (o1 := none) rfl j_none
  · subst hM1
    have hw1 := hw
    have hL1 := hL
    have hf1 : ∀ q : Nat, q < kB κ + 387 → q ≠ kB κ + 66 → X9 q = X9 q := fun _ _ _ => rfl
    refine j_st (st1 := [.int v, .int 0, .ref (kB κ + 387)]) rfl ?_
    refine j_i2l X dL_sign_8 ?_
    refine j_last X v01 dL_sign_9 (Nat.le_add_right _ _) ((memG_out (Or.inr (by omega))).trans hw1) ?_
    rw [memG_upX (by omega)]
    refine j_goto X 21 dL_sign_10 (by decide) ?_
    refine j_iconst X (0 : Int32) dL_sign_21 (by rfl) ?_
    exact j_iret X dL_sign_22 ⟨_, rfl, hL1.out, jUp_eq, fun q q1 q2 => (jUp_ne (by omega)).trans (hf1 q q1 q2)⟩ (fun _ h => h)
def f_L_fault (S : jS) (L : jLg) (w : Nat → Int64) (p1 : Int32) : Option (jR jLS) := jcat (f_X10_fault S p1) (fun v S1 => some (0, (0 : Int32), (S1, L, vp_updL w (0 : Int32).toNatClampNeg v.toInt64))) (fun t S1 => if t = 1 then some (0, (1 : Int32), (S1, L, w)) else none)
abbrev rm_L_fault : Room := { frames := 9, cells := 1, slots := 6, locals := 153 }
abbrev hh_L_fault : List (Nat × Nat × Nat × Nat) := [(0, 9, 12, 13)]
set_option maxHeartbeats 4000000 in
set_option maxRecDepth 100000 in
theorem c_L_fault {l : Launch} {D : va_G} {B t0 : Nat} (hl9 : l.stackTraces = false) (S : jS) (X9 : jMem) (L : jLg) (w : Nat → Int64) (hL : LogX D B t0 L X9) (hw : X9 (B + 387) = some (outC D w)) (p1 : Int32) : jCfH l D B t0 yL_fault cL_fault 4 (some .int) hh_L_fault rm_L_fault [.ref (B + 0), .int p1, .ref (B + 387)] (memG 0 358 D B S X9) (zD B) (f_L_fault S L w p1) rvI (LPM D B t0 X9) (zD B) := by
  refine jC_ofH hl9 [(0, .ref (B + 0)), (1, .int p1), (2, .ref (B + 387))] ⟨by decide +kernel, Nat.le_of_ble_eq_true rfl⟩ rfl (fun κ hl hD hB hT X htab => ?_)
  subst hl hD hB hT
  have X : jX κ RL cL_fault 4 (some .int) := X
  unfold f_L_fault
  refine j_aload_n X 2 rfl dL_fault_0 rfl ?_
  refine j_iconst X (0 : Int32) dL_fault_1 (by rfl) ?_
  refine j_aload_n X 0 rfl dL_fault_2 rfl ?_
  refine j_iload_n X 1 rfl dL_fault_3 rfl ?_
  refine j_callVT X 0 0 (fun t => match t with | 0 => 12 | 1 => 0 | _ => 0) (c_X10_fault X.tr S X9 (zD (kB κ)) p1) me_X10_fault ml_L_33 iv_X10_fault cf_X10 dL_fault_4 (memG_at kf_0) (rest := [.int 0, .ref (kB κ + 387)]) rfl rfl (by decide) (by decide) (Nat.le_of_ble_eq_true rfl) zD_mono (fun t S1 hne => ?_) (fun t S1 M1 q hM1 => ?_) (fun v S1 M1 hM1 => ?_)
  · match t, hne with
    | 0, _ => exact ⟨[], (⟨0, 9, 12, 13⟩ : ExceptionTableEntry), [], htab, (fun z hz => nomatch hz), by decide, by decide, cl_L_13, ca_E1, rfl⟩
    | 1, hne => exact absurd rfl hne
    | 2, hne => exact absurd rfl hne
    | t + 3, hne => exact absurd rfl hne
  · subst hM1
    have hw1 := hw
    have hL1 := hL
    have hf1 : ∀ q : Nat, q < kB κ + 387 → q ≠ kB κ + 66 → X9 q = X9 q := fun _ _ _ => rfl
    match t with
    | 0 =>
      refine j_eq (o1 := some (0, (1 : Int32), (S1, L, w))) rfl (j_pc (pc1 := 12) rfl ?_)
      refine j_astore_n X [(3, .ref q), (0, .ref (kB κ + 0)), (1, .int p1), (2, .ref (kB κ + 387))] dL_fault_12 rfl (by decide) rfl ?_
      refine j_iconst X (1 : Int32) dL_fault_13 (by rfl) ?_
      exact j_iret X dL_fault_14 ⟨_, rfl, hL1, hw1, hf1⟩ (fun _ h => h)
    | 1 => exact j_eq (o1 := none) rfl j_none
    | 2 => exact j_eq (o1 := none) rfl j_none
    | t + 3 => exact j_eq (o1 := none) rfl j_none
  · subst hM1
    have hw1 := hw
    have hL1 := hL
    have hf1 : ∀ q : Nat, q < kB κ + 387 → q ≠ kB κ + 66 → X9 q = X9 q := fun _ _ _ => rfl
    refine j_st (st1 := [.int v, .int 0, .ref (kB κ + 387)]) rfl ?_
    refine j_i2l X dL_fault_7 ?_
    refine j_last X v01 dL_fault_8 (Nat.le_add_right _ _) ((memG_out (Or.inr (by omega))).trans hw1) ?_
    rw [memG_upX (by omega)]
    refine j_goto X 15 dL_fault_9 (by decide) ?_
    refine j_iconst X (0 : Int32) dL_fault_15 (by rfl) ?_
    exact j_iret X dL_fault_16 ⟨_, rfl, hL1.out, jUp_eq, fun q q1 q2 => (jUp_ne (by omega)).trans (hf1 q q1 q2)⟩ (fun _ h => h)
def f_L_set (S : jS) (L : jLg) (w : Nat → Int64) (p1 : Int32) : Option (jR jLS) := jcat (f_X10_set S p1) (fun v S1 => some (0, (0 : Int32), (S1, L, vp_updL w (0 : Int32).toNatClampNeg v.toInt64))) (fun t S1 => if t = 1 then some (0, (1 : Int32), (S1, L, w)) else if t = 2 then some (0, (2 : Int32), (S1, L, w)) else none)
abbrev rm_L_set : Room := { frames := 9, cells := 2, slots := 12, locals := 160 }
abbrev hh_L_set : List (Nat × Nat × Nat × Nat) := [(0, 9, 12, 13), (0, 9, 15, 23)]
set_option maxHeartbeats 4000000 in
set_option maxRecDepth 100000 in
theorem c_L_set {l : Launch} {D : va_G} {B t0 : Nat} (hl9 : l.stackTraces = false) (S : jS) (X9 : jMem) (L : jLg) (w : Nat → Int64) (hL : LogX D B t0 L X9) (hw : X9 (B + 387) = some (outC D w)) (p1 : Int32) : jCfH l D B t0 yL_set cL_set 4 (some .int) hh_L_set rm_L_set [.ref (B + 0), .int p1, .ref (B + 387)] (memG 0 358 D B S X9) (zD B) (f_L_set S L w p1) rvI (LPM D B t0 X9) (zD B) := by
  refine jC_ofH hl9 [(0, .ref (B + 0)), (1, .int p1), (2, .ref (B + 387))] ⟨by decide +kernel, Nat.le_of_ble_eq_true rfl⟩ rfl (fun κ hl hD hB hT X htab => ?_)
  subst hl hD hB hT
  have X : jX κ RL cL_set 4 (some .int) := X
  unfold f_L_set
  refine j_aload_n X 2 rfl dL_set_0 rfl ?_
  refine j_iconst X (0 : Int32) dL_set_1 (by rfl) ?_
  refine j_aload_n X 0 rfl dL_set_2 rfl ?_
  refine j_iload_n X 1 rfl dL_set_3 rfl ?_
  refine j_callVT X 0 0 (fun t => match t with | 0 => 12 | 1 => 15 | _ => 0) (c_X10_set X.tr S X9 (zD (kB κ)) p1) me_X10_set ml_L_37 iv_X10_set cf_X10 dL_set_4 (memG_at kf_0) (rest := [.int 0, .ref (kB κ + 387)]) rfl rfl (by decide) (by decide) (Nat.le_of_ble_eq_true rfl) zD_mono (fun t S1 hne => ?_) (fun t S1 M1 q hM1 => ?_) (fun v S1 M1 hM1 => ?_)
  · match t, hne with
    | 0, _ => exact ⟨[], (⟨0, 9, 12, 13⟩ : ExceptionTableEntry), [(⟨0, 9, 15, 23⟩ : ExceptionTableEntry)], htab, (fun z hz => nomatch hz), by decide, by decide, cl_L_13, ca_E1, rfl⟩
    | 1, _ => exact ⟨[(⟨0, 9, 12, 13⟩ : ExceptionTableEntry)], (⟨0, 9, 15, 23⟩ : ExceptionTableEntry), [], htab, (fun z hz => by
        simp only [List.mem_cons, List.not_mem_nil, or_false] at hz
        subst hz
        exact Or.inr ⟨by decide, _, cl_L_13, X.k.1.2.1⟩), by decide, by decide, cl_L_23, ca_E2, rfl⟩
    | 2, hne => exact absurd rfl hne
    | t + 3, hne => exact absurd rfl hne
  · subst hM1
    have hw1 := hw
    have hL1 := hL
    have hf1 : ∀ q : Nat, q < kB κ + 387 → q ≠ kB κ + 66 → X9 q = X9 q := fun _ _ _ => rfl
    match t with
    | 0 =>
      refine j_eq (o1 := some (0, (1 : Int32), (S1, L, w))) rfl (j_pc (pc1 := 12) rfl ?_)
      refine j_astore_n X [(3, .ref q), (0, .ref (kB κ + 0)), (1, .int p1), (2, .ref (kB κ + 387))] dL_set_12 rfl (by decide) rfl ?_
      refine j_iconst X (1 : Int32) dL_set_13 (by rfl) ?_
      exact j_iret X dL_set_14 ⟨_, rfl, hL1, hw1, hf1⟩ (fun _ h => h)
    | 1 =>
      refine j_eq (o1 := some (0, (2 : Int32), (S1, L, w))) rfl (j_pc (pc1 := 15) rfl ?_)
      refine j_astore_n X [(3, .ref q), (0, .ref (kB κ + 0)), (1, .int p1), (2, .ref (kB κ + 387))] dL_set_15 rfl (by decide) rfl ?_
      refine j_iconst X (2 : Int32) dL_set_16 (by rfl) ?_
      exact j_iret X dL_set_17 ⟨_, rfl, hL1, hw1, hf1⟩ (fun _ h => h)
    | 2 => exact j_eq (o1 := none) rfl j_none
    | t + 3 => exact j_eq (o1 := none) rfl j_none
  · subst hM1
    have hw1 := hw
    have hL1 := hL
    have hf1 : ∀ q : Nat, q < kB κ + 387 → q ≠ kB κ + 66 → X9 q = X9 q := fun _ _ _ => rfl
    refine j_st (st1 := [.int v, .int 0, .ref (kB κ + 387)]) rfl ?_
    refine j_i2l X dL_set_7 ?_
    refine j_last X v01 dL_set_8 (Nat.le_add_right _ _) ((memG_out (Or.inr (by omega))).trans hw1) ?_
    rw [memG_upX (by omega)]
    refine j_goto X 18 dL_set_9 (by decide) ?_
    refine j_iconst X (0 : Int32) dL_set_18 (by rfl) ?_
    exact j_iret X dL_set_19 ⟨_, rfl, hL1.out, jUp_eq, fun q q1 q2 => (jUp_ne (by omega)).trans (hf1 q q1 q2)⟩ (fun _ h => h)
def f_L_wouldMove (S : jS) (L : jLg) (w : Nat → Int64) (p1 : Int32) : Option (jR jLS) := jcat (f_X10_wouldMove S p1) (fun v S1 => some (0, (0 : Int32), (S1, L, vp_updL w (0 : Int32).toNatClampNeg v.toInt64))) (fun t S1 => if t = 1 then some (0, (1 : Int32), (S1, L, w)) else if t = 2 then some (0, (2 : Int32), (S1, L, w)) else none)
abbrev rm_L_wouldMove : Room := { frames := 9, cells := 2, slots := 12, locals := 161 }
abbrev hh_L_wouldMove : List (Nat × Nat × Nat × Nat) := [(0, 9, 12, 13), (0, 9, 15, 23)]
set_option maxHeartbeats 4000000 in
set_option maxRecDepth 100000 in
theorem c_L_wouldMove {l : Launch} {D : va_G} {B t0 : Nat} (hl9 : l.stackTraces = false) (S : jS) (X9 : jMem) (L : jLg) (w : Nat → Int64) (hL : LogX D B t0 L X9) (hw : X9 (B + 387) = some (outC D w)) (p1 : Int32) : jCfH l D B t0 yL_wouldMove cL_wouldMove 4 (some .int) hh_L_wouldMove rm_L_wouldMove [.ref (B + 0), .int p1, .ref (B + 387)] (memG 0 358 D B S X9) (zD B) (f_L_wouldMove S L w p1) rvI (LPM D B t0 X9) (zD B) := by
  refine jC_ofH hl9 [(0, .ref (B + 0)), (1, .int p1), (2, .ref (B + 387))] ⟨by decide +kernel, Nat.le_of_ble_eq_true rfl⟩ rfl (fun κ hl hD hB hT X htab => ?_)
  subst hl hD hB hT
  have X : jX κ RL cL_wouldMove 4 (some .int) := X
  unfold f_L_wouldMove
  refine j_aload_n X 2 rfl dL_wouldMove_0 rfl ?_
  refine j_iconst X (0 : Int32) dL_wouldMove_1 (by rfl) ?_
  refine j_aload_n X 0 rfl dL_wouldMove_2 rfl ?_
  refine j_iload_n X 1 rfl dL_wouldMove_3 rfl ?_
  refine j_callVT X 0 0 (fun t => match t with | 0 => 12 | 1 => 15 | _ => 0) (c_X10_wouldMove X.tr S X9 (zD (kB κ)) p1) me_X10_wouldMove ml_L_40 iv_X10_wouldMove cf_X10 dL_wouldMove_4 (memG_at kf_0) (rest := [.int 0, .ref (kB κ + 387)]) rfl rfl (by decide) (by decide) (Nat.le_of_ble_eq_true rfl) zD_mono (fun t S1 hne => ?_) (fun t S1 M1 q hM1 => ?_) (fun v S1 M1 hM1 => ?_)
  · match t, hne with
    | 0, _ => exact ⟨[], (⟨0, 9, 12, 13⟩ : ExceptionTableEntry), [(⟨0, 9, 15, 23⟩ : ExceptionTableEntry)], htab, (fun z hz => nomatch hz), by decide, by decide, cl_L_13, ca_E1, rfl⟩
    | 1, _ => exact ⟨[(⟨0, 9, 12, 13⟩ : ExceptionTableEntry)], (⟨0, 9, 15, 23⟩ : ExceptionTableEntry), [], htab, (fun z hz => by
        simp only [List.mem_cons, List.not_mem_nil, or_false] at hz
        subst hz
        exact Or.inr ⟨by decide, _, cl_L_13, X.k.1.2.1⟩), by decide, by decide, cl_L_23, ca_E2, rfl⟩
    | 2, hne => exact absurd rfl hne
    | t + 3, hne => exact absurd rfl hne
  · subst hM1
    have hw1 := hw
    have hL1 := hL
    have hf1 : ∀ q : Nat, q < kB κ + 387 → q ≠ kB κ + 66 → X9 q = X9 q := fun _ _ _ => rfl
    match t with
    | 0 =>
      refine j_eq (o1 := some (0, (1 : Int32), (S1, L, w))) rfl (j_pc (pc1 := 12) rfl ?_)
      refine j_astore_n X [(3, .ref q), (0, .ref (kB κ + 0)), (1, .int p1), (2, .ref (kB κ + 387))] dL_wouldMove_12 rfl (by decide) rfl ?_
      refine j_iconst X (1 : Int32) dL_wouldMove_13 (by rfl) ?_
      exact j_iret X dL_wouldMove_14 ⟨_, rfl, hL1, hw1, hf1⟩ (fun _ h => h)
    | 1 =>
      refine j_eq (o1 := some (0, (2 : Int32), (S1, L, w))) rfl (j_pc (pc1 := 15) rfl ?_)
      refine j_astore_n X [(3, .ref q), (0, .ref (kB κ + 0)), (1, .int p1), (2, .ref (kB κ + 387))] dL_wouldMove_15 rfl (by decide) rfl ?_
      refine j_iconst X (2 : Int32) dL_wouldMove_16 (by rfl) ?_
      exact j_iret X dL_wouldMove_17 ⟨_, rfl, hL1, hw1, hf1⟩ (fun _ h => h)
    | 2 => exact j_eq (o1 := none) rfl j_none
    | t + 3 => exact j_eq (o1 := none) rfl j_none
  · subst hM1
    have hw1 := hw
    have hL1 := hL
    have hf1 : ∀ q : Nat, q < kB κ + 387 → q ≠ kB κ + 66 → X9 q = X9 q := fun _ _ _ => rfl
    refine j_st (st1 := [.int v, .int 0, .ref (kB κ + 387)]) rfl ?_
    refine j_i2l X dL_wouldMove_7 ?_
    refine j_last X v01 dL_wouldMove_8 (Nat.le_add_right _ _) ((memG_out (Or.inr (by omega))).trans hw1) ?_
    rw [memG_upX (by omega)]
    refine j_goto X 18 dL_wouldMove_9 (by decide) ?_
    refine j_iconst X (0 : Int32) dL_wouldMove_18 (by rfl) ?_
    exact j_iret X dL_wouldMove_19 ⟨_, rfl, hL1.out, jUp_eq, fun q q1 q2 => (jUp_ne (by omega)).trans (hf1 q q1 q2)⟩ (fun _ h => h)
def f_L_isIn (S : jS) (L : jLg) (w : Nat → Int64) (p1 : Int32) (p2 : Int32) : Option (jR jLS) := jcat (f_X10_isIn S p1 p2) (fun v S1 => (if v = (0 : Int32) then some (0, (0 : Int32), (S, L, vp_updL w (0 : Int32).toNatClampNeg (0 : Int64))) else some (0, (0 : Int32), (S, L, vp_updL w (0 : Int32).toNatClampNeg (1 : Int64))))) (fun t S1 => if t = 1 then some (0, (1 : Int32), (S, L, w)) else none)
abbrev rm_L_isIn : Room := { frames := 9, cells := 2, slots := 12, locals := 154 }
abbrev hh_L_isIn : List (Nat × Nat × Nat × Nat) := [(0, 17, 20, 13)]
set_option maxHeartbeats 4000000 in
set_option maxRecDepth 100000 in
theorem c_L_isIn {l : Launch} {D : va_G} {B t0 : Nat} (hl9 : l.stackTraces = false) (S : jS) (X9 : jMem) (L : jLg) (w : Nat → Int64) (hL : LogX D B t0 L X9) (hw : X9 (B + 387) = some (outC D w)) (p1 : Int32) (p2 : Int32) : jCfH l D B t0 yL_isIn cL_isIn 5 (some .int) hh_L_isIn rm_L_isIn [.ref (B + 0), .int p1, .int p2, .ref (B + 387)] (memG 0 358 D B S X9) (zD B) (f_L_isIn S L w p1 p2) rvI (LPM D B t0 X9) (zD B) := by
  refine jC_ofH hl9 [(0, .ref (B + 0)), (1, .int p1), (2, .int p2), (3, .ref (B + 387))] ⟨by decide +kernel, Nat.le_of_ble_eq_true rfl⟩ rfl (fun κ hl hD hB hT X htab => ?_)
  subst hl hD hB hT
  have X : jX κ RL cL_isIn 5 (some .int) := X
  unfold f_L_isIn
  refine j_aload_n X 3 rfl dL_isIn_0 rfl ?_
  refine j_iconst X (0 : Int32) dL_isIn_1 (by rfl) ?_
  refine j_aload_n X 0 rfl dL_isIn_2 rfl ?_
  refine j_iload_n X 1 rfl dL_isIn_3 rfl ?_
  refine j_iload_n X 2 rfl dL_isIn_4 rfl ?_
  refine j_callVT X 0 0 (fun t => match t with | 0 => 20 | 1 => 0 | _ => 0) (c_X10_isIn X.tr S X9 (zD (kB κ)) p1 p2) me_X10_isIn ml_L_43 iv_X10_isIn cf_X10 dL_isIn_5 (memG_at kf_0) (rest := [.int 0, .ref (kB κ + 387)]) rfl rfl (by decide) (by decide) (Nat.le_of_ble_eq_true rfl) zD_mono (fun t S1 hne => ?_) (fun t S1 M1 q hM1 => ?_) (fun v S1 M1 hM1 => ?_)
  · match t, hne with
    | 0, _ => exact ⟨[], (⟨0, 17, 20, 13⟩ : ExceptionTableEntry), [], htab, (fun z hz => nomatch hz), by decide, by decide, cl_L_13, ca_E1, rfl⟩
    | 1, hne => exact absurd rfl hne
    | 2, hne => exact absurd rfl hne
    | t + 3, hne => exact absurd rfl hne
  · subst hM1
    have hw1 := hw
    have hL1 := hL
    have hf1 : ∀ q : Nat, q < kB κ + 387 → q ≠ kB κ + 66 → X9 q = X9 q := fun _ _ _ => rfl
    match t with
    | 0 =>
      refine j_eq (o1 := some (0, (1 : Int32), (S, L, w))) rfl (j_pc (pc1 := 20) rfl ?_)
      refine j_astore X [(4, .ref q), (0, .ref (kB κ + 0)), (1, .int p1), (2, .int p2), (3, .ref (kB κ + 387))] dL_isIn_20 (by decide) rfl ?_
      refine j_iconst X (1 : Int32) dL_isIn_22 (by rfl) ?_
      exact j_iret X dL_isIn_23 ⟨_, rfl, hL1, hw1, hf1⟩ (fun _ h => h)
    | 1 => exact j_eq (o1 := none) rfl j_none
    | 2 => exact j_eq (o1 := none) rfl j_none
    | t + 3 => exact j_eq (o1 := none) rfl j_none
  · subst hM1
    have hw1 := hw
    have hL1 := hL
    have hf1 : ∀ q : Nat, q < kB κ + 387 → q ≠ kB κ + 66 → X9 q = X9 q := fun _ _ _ => rfl
    refine j_st (st1 := [.int v, .int 0, .ref (kB κ + 387)]) rfl ?_
    refine j_if_eq X 15 dL_isIn_8 (by decide) ?_ ?_
    · refine j_lconst X (0 : Int64) dL_isIn_15 (by rfl) ?_
      refine j_last X v01 dL_isIn_16 (Nat.le_add_right _ _) ((memG_out (Or.inr (by omega))).trans hw1) ?_
      rw [memG_upX (by omega)]
      refine j_goto X 24 dL_isIn_17 (by decide) ?_
      refine j_iconst X (0 : Int32) dL_isIn_24 (by rfl) ?_
      exact j_iret X dL_isIn_25 ⟨_, rfl, hL1.out, jUp_eq, fun q q1 q2 => (jUp_ne (by omega)).trans (hf1 q q1 q2)⟩ (fun _ h => h)
    · refine j_lconst X (1 : Int64) dL_isIn_11 (by rfl) ?_
      refine j_goto X 16 dL_isIn_12 (by decide) ?_
      refine j_last X v01 dL_isIn_16 (Nat.le_add_right _ _) ((memG_out (Or.inr (by omega))).trans hw1) ?_
      rw [memG_upX (by omega)]
      refine j_goto X 24 dL_isIn_17 (by decide) ?_
      refine j_iconst X (0 : Int32) dL_isIn_24 (by rfl) ?_
      exact j_iret X dL_isIn_25 ⟨_, rfl, hL1.out, jUp_eq, fun q q1 q2 => (jUp_ne (by omega)).trans (hf1 q q1 q2)⟩ (fun _ h => h)
def f_L_addRule (S : jS) (L : jLg) (w : Nat → Int64) (p1 : Int32) (p2 : Int32) (p3 : Int32) (p4 : Int32) : Option (jR jLS) := jcat (f_X10_addRule S p1 p2 p3 p4) (fun v S1 => some (0, (0 : Int32), (S1, L, vp_updL w (0 : Int32).toNatClampNeg v.toInt64))) (fun t S1 => if t = 1 then some (0, (1 : Int32), (S1, L, w)) else if t = 3 then some (0, (2 : Int32), (S1, L, w)) else if t = 2 then some (0, (3 : Int32), (S1, L, w)) else none)
abbrev rm_L_addRule : Room := { frames := 9, cells := 4, slots := 24, locals := 157 }
abbrev hh_L_addRule : List (Nat × Nat × Nat × Nat) := [(0, 14, 17, 13), (0, 14, 21, 31), (0, 14, 25, 23)]
set_option maxHeartbeats 4000000 in
set_option maxRecDepth 100000 in
theorem c_L_addRule {l : Launch} {D : va_G} {B t0 : Nat} (hl9 : l.stackTraces = false) (S : jS) (X9 : jMem) (L : jLg) (w : Nat → Int64) (hL : LogX D B t0 L X9) (hw : X9 (B + 387) = some (outC D w)) (p1 : Int32) (p2 : Int32) (p3 : Int32) (p4 : Int32) : jCfH l D B t0 yL_addRule cL_addRule 7 (some .int) hh_L_addRule rm_L_addRule [.ref (B + 0), .int p1, .int p2, .int p3, .int p4, .ref (B + 387)] (memG 0 358 D B S X9) (zD B) (f_L_addRule S L w p1 p2 p3 p4) rvI (LPM D B t0 X9) (zD B) := by
  refine jC_ofH hl9 [(0, .ref (B + 0)), (1, .int p1), (2, .int p2), (3, .int p3), (4, .int p4), (5, .ref (B + 387))] ⟨by decide +kernel, Nat.le_of_ble_eq_true rfl⟩ rfl (fun κ hl hD hB hT X htab => ?_)
  subst hl hD hB hT
  have X : jX κ RL cL_addRule 7 (some .int) := X
  unfold f_L_addRule
  refine j_aload X 5 rfl dL_addRule_0 ?_
  refine j_iconst X (0 : Int32) dL_addRule_2 (by rfl) ?_
  refine j_aload_n X 0 rfl dL_addRule_3 rfl ?_
  refine j_iload_n X 1 rfl dL_addRule_4 rfl ?_
  refine j_iload_n X 2 rfl dL_addRule_5 rfl ?_
  refine j_iload_n X 3 rfl dL_addRule_6 rfl ?_
  refine j_iload X 4 rfl dL_addRule_7 ?_
  refine j_callVT X 0 0 (fun t => match t with | 0 => 17 | 1 => 25 | _ => 21) (c_X10_addRule X.tr S X9 (zD (kB κ)) p1 p2 p3 p4) me_X10_addRule ml_L_47 iv_X10_addRule cf_X10 dL_addRule_9 (memG_at kf_0) (rest := [.int 0, .ref (kB κ + 387)]) rfl rfl (by decide) (by decide) (Nat.le_of_ble_eq_true rfl) zD_mono (fun t S1 hne => ?_) (fun t S1 M1 q hM1 => ?_) (fun v S1 M1 hM1 => ?_)
  · match t, hne with
    | 0, _ => exact ⟨[], (⟨0, 14, 17, 13⟩ : ExceptionTableEntry), [(⟨0, 14, 21, 31⟩ : ExceptionTableEntry), (⟨0, 14, 25, 23⟩ : ExceptionTableEntry)], htab, (fun z hz => nomatch hz), by decide, by decide, cl_L_13, ca_E1, rfl⟩
    | 1, _ => exact ⟨[(⟨0, 14, 17, 13⟩ : ExceptionTableEntry), (⟨0, 14, 21, 31⟩ : ExceptionTableEntry)], (⟨0, 14, 25, 23⟩ : ExceptionTableEntry), [], htab, (fun z hz => by
        simp only [List.mem_cons, List.not_mem_nil, or_false] at hz
        rcases hz with rfl | rfl
        · exact Or.inr ⟨by decide, _, cl_L_13, X.k.1.2.1⟩
        · exact Or.inr ⟨by decide, _, cl_L_31, X.k.1.2.2.2.1⟩), by decide, by decide, cl_L_23, ca_E2, rfl⟩
    | 2, _ => exact ⟨[(⟨0, 14, 17, 13⟩ : ExceptionTableEntry)], (⟨0, 14, 21, 31⟩ : ExceptionTableEntry), [(⟨0, 14, 25, 23⟩ : ExceptionTableEntry)], htab, (fun z hz => by
        simp only [List.mem_cons, List.not_mem_nil, or_false] at hz
        subst hz
        exact Or.inr ⟨by decide, _, cl_L_13, X.k.1.2.2.1⟩), by decide, by decide, cl_L_31, ca_E3, rfl⟩
    | t + 3, hne => exact absurd rfl hne
  · subst hM1
    have hw1 := hw
    have hL1 := hL
    have hf1 : ∀ q : Nat, q < kB κ + 387 → q ≠ kB κ + 66 → X9 q = X9 q := fun _ _ _ => rfl
    match t with
    | 0 =>
      refine j_eq (o1 := some (0, (1 : Int32), (S1, L, w))) rfl (j_pc (pc1 := 17) rfl ?_)
      refine j_astore X [(6, .ref q), (0, .ref (kB κ + 0)), (1, .int p1), (2, .int p2), (3, .int p3), (4, .int p4), (5, .ref (kB κ + 387))] dL_addRule_17 (by decide) rfl ?_
      refine j_iconst X (1 : Int32) dL_addRule_19 (by rfl) ?_
      exact j_iret X dL_addRule_20 ⟨_, rfl, hL1, hw1, hf1⟩ (fun _ h => h)
    | 1 =>
      refine j_eq (o1 := some (0, (3 : Int32), (S1, L, w))) rfl (j_pc (pc1 := 25) rfl ?_)
      refine j_astore X [(6, .ref q), (0, .ref (kB κ + 0)), (1, .int p1), (2, .int p2), (3, .int p3), (4, .int p4), (5, .ref (kB κ + 387))] dL_addRule_25 (by decide) rfl ?_
      refine j_iconst X (3 : Int32) dL_addRule_27 (by rfl) ?_
      exact j_iret X dL_addRule_28 ⟨_, rfl, hL1, hw1, hf1⟩ (fun _ h => h)
    | 2 =>
      refine j_eq (o1 := some (0, (2 : Int32), (S1, L, w))) rfl (j_pc (pc1 := 21) rfl ?_)
      refine j_astore X [(6, .ref q), (0, .ref (kB κ + 0)), (1, .int p1), (2, .int p2), (3, .int p3), (4, .int p4), (5, .ref (kB κ + 387))] dL_addRule_21 (by decide) rfl ?_
      refine j_iconst X (2 : Int32) dL_addRule_23 (by rfl) ?_
      exact j_iret X dL_addRule_24 ⟨_, rfl, hL1, hw1, hf1⟩ (fun _ h => h)
    | t + 3 => exact j_eq (o1 := none) rfl j_none
  · subst hM1
    have hw1 := hw
    have hL1 := hL
    have hf1 : ∀ q : Nat, q < kB κ + 387 → q ≠ kB κ + 66 → X9 q = X9 q := fun _ _ _ => rfl
    refine j_st (st1 := [.int v, .int 0, .ref (kB κ + 387)]) rfl ?_
    refine j_i2l X dL_addRule_12 ?_
    refine j_last X v01 dL_addRule_13 (Nat.le_add_right _ _) ((memG_out (Or.inr (by omega))).trans hw1) ?_
    rw [memG_upX (by omega)]
    refine j_goto X 29 dL_addRule_14 (by decide) ?_
    refine j_iconst X (0 : Int32) dL_addRule_29 (by rfl) ?_
    exact j_iret X dL_addRule_30 ⟨_, rfl, hL1.out, jUp_eq, fun q q1 q2 => (jUp_ne (by omega)).trans (hf1 q q1 q2)⟩ (fun _ h => h)
def f_L_removeRule (S : jS) (L : jLg) (w : Nat → Int64) (p1 : Int32) (p2 : Int32) : Option (jR jLS) := jcat (f_X10_removeRule S p1 p2) (fun v S1 => some (0, (0 : Int32), (S1, L, vp_updL w (0 : Int32).toNatClampNeg v.toInt64))) (fun t S1 => if t = 1 then some (0, (1 : Int32), (S1, L, w)) else if t = 3 then some (0, (2 : Int32), (S1, L, w)) else none)
abbrev rm_L_removeRule : Room := { frames := 9, cells := 2, slots := 12, locals := 156 }
abbrev hh_L_removeRule : List (Nat × Nat × Nat × Nat) := [(0, 10, 13, 13), (0, 10, 17, 31)]
set_option maxHeartbeats 4000000 in
set_option maxRecDepth 100000 in
theorem c_L_removeRule {l : Launch} {D : va_G} {B t0 : Nat} (hl9 : l.stackTraces = false) (S : jS) (X9 : jMem) (L : jLg) (w : Nat → Int64) (hL : LogX D B t0 L X9) (hw : X9 (B + 387) = some (outC D w)) (p1 : Int32) (p2 : Int32) : jCfH l D B t0 yL_removeRule cL_removeRule 5 (some .int) hh_L_removeRule rm_L_removeRule [.ref (B + 0), .int p1, .int p2, .ref (B + 387)] (memG 0 358 D B S X9) (zD B) (f_L_removeRule S L w p1 p2) rvI (LPM D B t0 X9) (zD B) := by
  refine jC_ofH hl9 [(0, .ref (B + 0)), (1, .int p1), (2, .int p2), (3, .ref (B + 387))] ⟨by decide +kernel, Nat.le_of_ble_eq_true rfl⟩ rfl (fun κ hl hD hB hT X htab => ?_)
  subst hl hD hB hT
  have X : jX κ RL cL_removeRule 5 (some .int) := X
  unfold f_L_removeRule
  refine j_aload_n X 3 rfl dL_removeRule_0 rfl ?_
  refine j_iconst X (0 : Int32) dL_removeRule_1 (by rfl) ?_
  refine j_aload_n X 0 rfl dL_removeRule_2 rfl ?_
  refine j_iload_n X 1 rfl dL_removeRule_3 rfl ?_
  refine j_iload_n X 2 rfl dL_removeRule_4 rfl ?_
  refine j_callVT X 0 0 (fun t => match t with | 0 => 13 | 1 => 0 | _ => 17) (c_X10_removeRule X.tr S X9 (zD (kB κ)) p1 p2) me_X10_removeRule ml_L_51 iv_X10_removeRule cf_X10 dL_removeRule_5 (memG_at kf_0) (rest := [.int 0, .ref (kB κ + 387)]) rfl rfl (by decide) (by decide) (Nat.le_of_ble_eq_true rfl) zD_mono (fun t S1 hne => ?_) (fun t S1 M1 q hM1 => ?_) (fun v S1 M1 hM1 => ?_)
  · match t, hne with
    | 0, _ => exact ⟨[], (⟨0, 10, 13, 13⟩ : ExceptionTableEntry), [(⟨0, 10, 17, 31⟩ : ExceptionTableEntry)], htab, (fun z hz => nomatch hz), by decide, by decide, cl_L_13, ca_E1, rfl⟩
    | 1, hne => exact absurd rfl hne
    | 2, _ => exact ⟨[(⟨0, 10, 13, 13⟩ : ExceptionTableEntry)], (⟨0, 10, 17, 31⟩ : ExceptionTableEntry), [], htab, (fun z hz => by
        simp only [List.mem_cons, List.not_mem_nil, or_false] at hz
        subst hz
        exact Or.inr ⟨by decide, _, cl_L_13, X.k.1.2.2.1⟩), by decide, by decide, cl_L_31, ca_E3, rfl⟩
    | t + 3, hne => exact absurd rfl hne
  · subst hM1
    have hw1 := hw
    have hL1 := hL
    have hf1 : ∀ q : Nat, q < kB κ + 387 → q ≠ kB κ + 66 → X9 q = X9 q := fun _ _ _ => rfl
    match t with
    | 0 =>
      refine j_eq (o1 := some (0, (1 : Int32), (S1, L, w))) rfl (j_pc (pc1 := 13) rfl ?_)
      refine j_astore X [(4, .ref q), (0, .ref (kB κ + 0)), (1, .int p1), (2, .int p2), (3, .ref (kB κ + 387))] dL_removeRule_13 (by decide) rfl ?_
      refine j_iconst X (1 : Int32) dL_removeRule_15 (by rfl) ?_
      exact j_iret X dL_removeRule_16 ⟨_, rfl, hL1, hw1, hf1⟩ (fun _ h => h)
    | 1 => exact j_eq (o1 := none) rfl j_none
    | 2 =>
      refine j_eq (o1 := some (0, (2 : Int32), (S1, L, w))) rfl (j_pc (pc1 := 17) rfl ?_)
      refine j_astore X [(4, .ref q), (0, .ref (kB κ + 0)), (1, .int p1), (2, .int p2), (3, .ref (kB κ + 387))] dL_removeRule_17 (by decide) rfl ?_
      refine j_iconst X (2 : Int32) dL_removeRule_19 (by rfl) ?_
      exact j_iret X dL_removeRule_20 ⟨_, rfl, hL1, hw1, hf1⟩ (fun _ h => h)
    | t + 3 => exact j_eq (o1 := none) rfl j_none
  · subst hM1
    have hw1 := hw
    have hL1 := hL
    have hf1 : ∀ q : Nat, q < kB κ + 387 → q ≠ kB κ + 66 → X9 q = X9 q := fun _ _ _ => rfl
    refine j_st (st1 := [.int v, .int 0, .ref (kB κ + 387)]) rfl ?_
    refine j_i2l X dL_removeRule_8 ?_
    refine j_last X v01 dL_removeRule_9 (Nat.le_add_right _ _) ((memG_out (Or.inr (by omega))).trans hw1) ?_
    rw [memG_upX (by omega)]
    refine j_goto X 21 dL_removeRule_10 (by decide) ?_
    refine j_iconst X (0 : Int32) dL_removeRule_21 (by rfl) ?_
    exact j_iret X dL_removeRule_22 ⟨_, rfl, hL1.out, jUp_eq, fun q q1 q2 => (jUp_ne (by omega)).trans (hf1 q q1 q2)⟩ (fun _ h => h)
def f_L_rules (S : jS) (L : jLg) (w : Nat → Int64) (p1 : Int32) : Option (jR jLS) := jcat (f_X10_rules S p1) (fun v S1 => some (0, (0 : Int32), (S, L, vp_updL w (0 : Int32).toNatClampNeg v.toInt64))) (fun t S1 => if t = 1 then some (0, (1 : Int32), (S, L, w)) else none)
abbrev rm_L_rules : Room := { frames := 9, cells := 1, slots := 6, locals := 153 }
abbrev hh_L_rules : List (Nat × Nat × Nat × Nat) := [(0, 9, 12, 13)]
set_option maxHeartbeats 4000000 in
set_option maxRecDepth 100000 in
theorem c_L_rules {l : Launch} {D : va_G} {B t0 : Nat} (hl9 : l.stackTraces = false) (S : jS) (X9 : jMem) (L : jLg) (w : Nat → Int64) (hL : LogX D B t0 L X9) (hw : X9 (B + 387) = some (outC D w)) (p1 : Int32) : jCfH l D B t0 yL_rules cL_rules 4 (some .int) hh_L_rules rm_L_rules [.ref (B + 0), .int p1, .ref (B + 387)] (memG 0 358 D B S X9) (zD B) (f_L_rules S L w p1) rvI (LPM D B t0 X9) (zD B) := by
  refine jC_ofH hl9 [(0, .ref (B + 0)), (1, .int p1), (2, .ref (B + 387))] ⟨by decide +kernel, Nat.le_of_ble_eq_true rfl⟩ rfl (fun κ hl hD hB hT X htab => ?_)
  subst hl hD hB hT
  have X : jX κ RL cL_rules 4 (some .int) := X
  unfold f_L_rules
  refine j_aload_n X 2 rfl dL_rules_0 rfl ?_
  refine j_iconst X (0 : Int32) dL_rules_1 (by rfl) ?_
  refine j_aload_n X 0 rfl dL_rules_2 rfl ?_
  refine j_iload_n X 1 rfl dL_rules_3 rfl ?_
  refine j_callVT X 0 0 (fun t => match t with | 0 => 12 | 1 => 0 | _ => 0) (c_X10_rules X.tr S X9 (zD (kB κ)) p1) me_X10_rules ml_L_54 iv_X10_rules cf_X10 dL_rules_4 (memG_at kf_0) (rest := [.int 0, .ref (kB κ + 387)]) rfl rfl (by decide) (by decide) (Nat.le_of_ble_eq_true rfl) zD_mono (fun t S1 hne => ?_) (fun t S1 M1 q hM1 => ?_) (fun v S1 M1 hM1 => ?_)
  · match t, hne with
    | 0, _ => exact ⟨[], (⟨0, 9, 12, 13⟩ : ExceptionTableEntry), [], htab, (fun z hz => nomatch hz), by decide, by decide, cl_L_13, ca_E1, rfl⟩
    | 1, hne => exact absurd rfl hne
    | 2, hne => exact absurd rfl hne
    | t + 3, hne => exact absurd rfl hne
  · subst hM1
    have hw1 := hw
    have hL1 := hL
    have hf1 : ∀ q : Nat, q < kB κ + 387 → q ≠ kB κ + 66 → X9 q = X9 q := fun _ _ _ => rfl
    match t with
    | 0 =>
      refine j_eq (o1 := some (0, (1 : Int32), (S, L, w))) rfl (j_pc (pc1 := 12) rfl ?_)
      refine j_astore_n X [(3, .ref q), (0, .ref (kB κ + 0)), (1, .int p1), (2, .ref (kB κ + 387))] dL_rules_12 rfl (by decide) rfl ?_
      refine j_iconst X (1 : Int32) dL_rules_13 (by rfl) ?_
      exact j_iret X dL_rules_14 ⟨_, rfl, hL1, hw1, hf1⟩ (fun _ h => h)
    | 1 => exact j_eq (o1 := none) rfl j_none
    | 2 => exact j_eq (o1 := none) rfl j_none
    | t + 3 => exact j_eq (o1 := none) rfl j_none
  · subst hM1
    have hw1 := hw
    have hL1 := hL
    have hf1 : ∀ q : Nat, q < kB κ + 387 → q ≠ kB κ + 66 → X9 q = X9 q := fun _ _ _ => rfl
    refine j_st (st1 := [.int v, .int 0, .ref (kB κ + 387)]) rfl ?_
    refine j_i2l X dL_rules_7 ?_
    refine j_last X v01 dL_rules_8 (Nat.le_add_right _ _) ((memG_out (Or.inr (by omega))).trans hw1) ?_
    rw [memG_upX (by omega)]
    refine j_goto X 15 dL_rules_9 (by decide) ?_
    refine j_iconst X (0 : Int32) dL_rules_15 (by rfl) ?_
    exact j_iret X dL_rules_16 ⟨_, rfl, hL1.out, jUp_eq, fun q q1 q2 => (jUp_ne (by omega)).trans (hf1 q q1 q2)⟩ (fun _ h => h)
def f_L_setNeed (S : jS) (L : jLg) (w : Nat → Int64) (p1 : Int32) (p2 : Int32) (p3 : Int32) : Option (jR jLS) := jcat (f_X10_setNeed S p1 p2 p3) (fun v S1 => (if v = (0 : Int32) then some (0, (0 : Int32), (S1, L, vp_updL w (0 : Int32).toNatClampNeg (0 : Int64))) else some (0, (0 : Int32), (S1, L, vp_updL w (0 : Int32).toNatClampNeg (1 : Int64))))) (fun t S1 => if t = 1 then some (0, (1 : Int32), (S1, L, w)) else if t = 2 then some (0, (2 : Int32), (S1, L, w)) else none)
abbrev rm_L_setNeed : Room := { frames := 9, cells := 3, slots := 18, locals := 157 }
abbrev hh_L_setNeed : List (Nat × Nat × Nat × Nat) := [(0, 19, 22, 13), (0, 19, 26, 23)]
set_option maxHeartbeats 4000000 in
set_option maxRecDepth 100000 in
theorem c_L_setNeed {l : Launch} {D : va_G} {B t0 : Nat} (hl9 : l.stackTraces = false) (S : jS) (X9 : jMem) (L : jLg) (w : Nat → Int64) (hL : LogX D B t0 L X9) (hw : X9 (B + 387) = some (outC D w)) (p1 : Int32) (p2 : Int32) (p3 : Int32) : jCfH l D B t0 yL_setNeed cL_setNeed 6 (some .int) hh_L_setNeed rm_L_setNeed [.ref (B + 0), .int p1, .int p2, .int p3, .ref (B + 387)] (memG 0 358 D B S X9) (zD B) (f_L_setNeed S L w p1 p2 p3) rvI (LPM D B t0 X9) (zD B) := by
  refine jC_ofH hl9 [(0, .ref (B + 0)), (1, .int p1), (2, .int p2), (3, .int p3), (4, .ref (B + 387))] ⟨by decide +kernel, Nat.le_of_ble_eq_true rfl⟩ rfl (fun κ hl hD hB hT X htab => ?_)
  subst hl hD hB hT
  have X : jX κ RL cL_setNeed 6 (some .int) := X
  unfold f_L_setNeed
  refine j_aload X 4 rfl dL_setNeed_0 ?_
  refine j_iconst X (0 : Int32) dL_setNeed_2 (by rfl) ?_
  refine j_aload_n X 0 rfl dL_setNeed_3 rfl ?_
  refine j_iload_n X 1 rfl dL_setNeed_4 rfl ?_
  refine j_iload_n X 2 rfl dL_setNeed_5 rfl ?_
  refine j_iload_n X 3 rfl dL_setNeed_6 rfl ?_
  refine j_callVT X 0 0 (fun t => match t with | 0 => 22 | 1 => 26 | _ => 0) (c_X10_setNeed X.tr S X9 (zD (kB κ)) p1 p2 p3) me_X10_setNeed ml_L_57 iv_X10_setNeed cf_X10 dL_setNeed_7 (memG_at kf_0) (rest := [.int 0, .ref (kB κ + 387)]) rfl rfl (by decide) (by decide) (Nat.le_of_ble_eq_true rfl) zD_mono (fun t S1 hne => ?_) (fun t S1 M1 q hM1 => ?_) (fun v S1 M1 hM1 => ?_)
  · match t, hne with
    | 0, _ => exact ⟨[], (⟨0, 19, 22, 13⟩ : ExceptionTableEntry), [(⟨0, 19, 26, 23⟩ : ExceptionTableEntry)], htab, (fun z hz => nomatch hz), by decide, by decide, cl_L_13, ca_E1, rfl⟩
    | 1, _ => exact ⟨[(⟨0, 19, 22, 13⟩ : ExceptionTableEntry)], (⟨0, 19, 26, 23⟩ : ExceptionTableEntry), [], htab, (fun z hz => by
        simp only [List.mem_cons, List.not_mem_nil, or_false] at hz
        subst hz
        exact Or.inr ⟨by decide, _, cl_L_13, X.k.1.2.1⟩), by decide, by decide, cl_L_23, ca_E2, rfl⟩
    | 2, hne => exact absurd rfl hne
    | t + 3, hne => exact absurd rfl hne
  · subst hM1
    have hw1 := hw
    have hL1 := hL
    have hf1 : ∀ q : Nat, q < kB κ + 387 → q ≠ kB κ + 66 → X9 q = X9 q := fun _ _ _ => rfl
    match t with
    | 0 =>
      refine j_eq (o1 := some (0, (1 : Int32), (S1, L, w))) rfl (j_pc (pc1 := 22) rfl ?_)
      refine j_astore X [(5, .ref q), (0, .ref (kB κ + 0)), (1, .int p1), (2, .int p2), (3, .int p3), (4, .ref (kB κ + 387))] dL_setNeed_22 (by decide) rfl ?_
      refine j_iconst X (1 : Int32) dL_setNeed_24 (by rfl) ?_
      exact j_iret X dL_setNeed_25 ⟨_, rfl, hL1, hw1, hf1⟩ (fun _ h => h)
    | 1 =>
      refine j_eq (o1 := some (0, (2 : Int32), (S1, L, w))) rfl (j_pc (pc1 := 26) rfl ?_)
      refine j_astore X [(5, .ref q), (0, .ref (kB κ + 0)), (1, .int p1), (2, .int p2), (3, .int p3), (4, .ref (kB κ + 387))] dL_setNeed_26 (by decide) rfl ?_
      refine j_iconst X (2 : Int32) dL_setNeed_28 (by rfl) ?_
      exact j_iret X dL_setNeed_29 ⟨_, rfl, hL1, hw1, hf1⟩ (fun _ h => h)
    | 2 => exact j_eq (o1 := none) rfl j_none
    | t + 3 => exact j_eq (o1 := none) rfl j_none
  · subst hM1
    have hw1 := hw
    have hL1 := hL
    have hf1 : ∀ q : Nat, q < kB κ + 387 → q ≠ kB κ + 66 → X9 q = X9 q := fun _ _ _ => rfl
    refine j_st (st1 := [.int v, .int 0, .ref (kB κ + 387)]) rfl ?_
    refine j_if_eq X 17 dL_setNeed_10 (by decide) ?_ ?_
    · refine j_lconst X (0 : Int64) dL_setNeed_17 (by rfl) ?_
      refine j_last X v01 dL_setNeed_18 (Nat.le_add_right _ _) ((memG_out (Or.inr (by omega))).trans hw1) ?_
      rw [memG_upX (by omega)]
      refine j_goto X 30 dL_setNeed_19 (by decide) ?_
      refine j_iconst X (0 : Int32) dL_setNeed_30 (by rfl) ?_
      exact j_iret X dL_setNeed_31 ⟨_, rfl, hL1.out, jUp_eq, fun q q1 q2 => (jUp_ne (by omega)).trans (hf1 q q1 q2)⟩ (fun _ h => h)
    · refine j_lconst X (1 : Int64) dL_setNeed_13 (by rfl) ?_
      refine j_goto X 18 dL_setNeed_14 (by decide) ?_
      refine j_last X v01 dL_setNeed_18 (Nat.le_add_right _ _) ((memG_out (Or.inr (by omega))).trans hw1) ?_
      rw [memG_upX (by omega)]
      refine j_goto X 30 dL_setNeed_19 (by decide) ?_
      refine j_iconst X (0 : Int32) dL_setNeed_30 (by rfl) ?_
      exact j_iret X dL_setNeed_31 ⟨_, rfl, hL1.out, jUp_eq, fun q q1 q2 => (jUp_ne (by omega)).trans (hf1 q q1 q2)⟩ (fun _ h => h)
def f_L_view (S : jS) (L : jLg) (w : Nat → Int64) (p1 : Int32) (p2 : Int32) : Option (jR jLS) := jcat (f_X10_view S p1 p2) (fun v S1 => some (0, (0 : Int32), (S1, L, vp_updL w (0 : Int32).toNatClampNeg v.toInt64))) (fun t S1 => if t = 1 then some (0, (1 : Int32), (S1, L, w)) else none)
abbrev rm_L_view : Room := { frames := 9, cells := 2, slots := 12, locals := 169 }
abbrev hh_L_view : List (Nat × Nat × Nat × Nat) := [(0, 10, 13, 13)]
set_option maxHeartbeats 4000000 in
set_option maxRecDepth 100000 in
theorem c_L_view {l : Launch} {D : va_G} {B t0 : Nat} (hl9 : l.stackTraces = false) (S : jS) (X9 : jMem) (L : jLg) (w : Nat → Int64) (hL : LogX D B t0 L X9) (hw : X9 (B + 387) = some (outC D w)) (p1 : Int32) (p2 : Int32) : jCfH l D B t0 yL_view cL_view 5 (some .int) hh_L_view rm_L_view [.ref (B + 0), .int p1, .int p2, .ref (B + 387)] (memG 0 358 D B S X9) (zD B) (f_L_view S L w p1 p2) rvI (LPM D B t0 X9) (zD B) := by
  refine jC_ofH hl9 [(0, .ref (B + 0)), (1, .int p1), (2, .int p2), (3, .ref (B + 387))] ⟨by decide +kernel, Nat.le_of_ble_eq_true rfl⟩ rfl (fun κ hl hD hB hT X htab => ?_)
  subst hl hD hB hT
  have X : jX κ RL cL_view 5 (some .int) := X
  unfold f_L_view
  refine j_aload_n X 3 rfl dL_view_0 rfl ?_
  refine j_iconst X (0 : Int32) dL_view_1 (by rfl) ?_
  refine j_aload_n X 0 rfl dL_view_2 rfl ?_
  refine j_iload_n X 1 rfl dL_view_3 rfl ?_
  refine j_iload_n X 2 rfl dL_view_4 rfl ?_
  refine j_callVT X 0 0 (fun t => match t with | 0 => 13 | 1 => 0 | _ => 0) (c_X10_view X.tr S X9 (zD (kB κ)) p1 p2) me_X10_view ml_L_60 iv_X10_view cf_X10 dL_view_5 (memG_at kf_0) (rest := [.int 0, .ref (kB κ + 387)]) rfl rfl (by decide) (by decide) (Nat.le_of_ble_eq_true rfl) zD_mono (fun t S1 hne => ?_) (fun t S1 M1 q hM1 => ?_) (fun v S1 M1 hM1 => ?_)
  · match t, hne with
    | 0, _ => exact ⟨[], (⟨0, 10, 13, 13⟩ : ExceptionTableEntry), [], htab, (fun z hz => nomatch hz), by decide, by decide, cl_L_13, ca_E1, rfl⟩
    | 1, hne => exact absurd rfl hne
    | 2, hne => exact absurd rfl hne
    | t + 3, hne => exact absurd rfl hne
  · subst hM1
    have hw1 := hw
    have hL1 := hL
    have hf1 : ∀ q : Nat, q < kB κ + 387 → q ≠ kB κ + 66 → X9 q = X9 q := fun _ _ _ => rfl
    match t with
    | 0 =>
      refine j_eq (o1 := some (0, (1 : Int32), (S1, L, w))) rfl (j_pc (pc1 := 13) rfl ?_)
      refine j_astore X [(4, .ref q), (0, .ref (kB κ + 0)), (1, .int p1), (2, .int p2), (3, .ref (kB κ + 387))] dL_view_13 (by decide) rfl ?_
      refine j_iconst X (1 : Int32) dL_view_15 (by rfl) ?_
      exact j_iret X dL_view_16 ⟨_, rfl, hL1, hw1, hf1⟩ (fun _ h => h)
    | 1 => exact j_eq (o1 := none) rfl j_none
    | 2 => exact j_eq (o1 := none) rfl j_none
    | t + 3 => exact j_eq (o1 := none) rfl j_none
  · subst hM1
    have hw1 := hw
    have hL1 := hL
    have hf1 : ∀ q : Nat, q < kB κ + 387 → q ≠ kB κ + 66 → X9 q = X9 q := fun _ _ _ => rfl
    refine j_st (st1 := [.int v, .int 0, .ref (kB κ + 387)]) rfl ?_
    refine j_i2l X dL_view_8 ?_
    refine j_last X v01 dL_view_9 (Nat.le_add_right _ _) ((memG_out (Or.inr (by omega))).trans hw1) ?_
    rw [memG_upX (by omega)]
    refine j_goto X 17 dL_view_10 (by decide) ?_
    refine j_iconst X (0 : Int32) dL_view_17 (by rfl) ?_
    exact j_iret X dL_view_18 ⟨_, rfl, hL1.out, jUp_eq, fun q q1 q2 => (jUp_ne (by omega)).trans (hf1 q q1 q2)⟩ (fun _ h => h)
def f_L_viewByLog (S : jS) (L : jLg) (w : Nat → Int64) (p1 : Int32) (p2 : Int32) : Option (jR jLS) := jcat (f_X10_viewByLog S L p1 p2) (fun v S1 => some (0, (0 : Int32), (S1, L, vp_updL w (0 : Int32).toNatClampNeg v.toInt64))) (fun t S1 => if t = 1 then some (0, (1 : Int32), (S1, L, w)) else none)
abbrev rm_L_viewByLog : Room := { frames := 9, cells := 2, slots := 12, locals := 155 }
abbrev hh_L_viewByLog : List (Nat × Nat × Nat × Nat) := [(0, 10, 13, 13)]
set_option maxHeartbeats 4000000 in
set_option maxRecDepth 100000 in
theorem c_L_viewByLog {l : Launch} {D : va_G} {B t0 : Nat} (hl9 : l.stackTraces = false) (S : jS) (X9 : jMem) (L : jLg) (w : Nat → Int64) (hL : LogX D B t0 L X9) (hw : X9 (B + 387) = some (outC D w)) (p1 : Int32) (p2 : Int32) : jCfH l D B t0 yL_viewByLog cL_viewByLog 5 (some .int) hh_L_viewByLog rm_L_viewByLog [.ref (B + 0), .int p1, .int p2, .ref (B + 387)] (memG 0 358 D B S X9) (zD B) (f_L_viewByLog S L w p1 p2) rvI (LPM D B t0 X9) (zD B) := by
  refine jC_ofH hl9 [(0, .ref (B + 0)), (1, .int p1), (2, .int p2), (3, .ref (B + 387))] ⟨by decide +kernel, Nat.le_of_ble_eq_true rfl⟩ rfl (fun κ hl hD hB hT X htab => ?_)
  subst hl hD hB hT
  have X : jX κ RL cL_viewByLog 5 (some .int) := X
  unfold f_L_viewByLog
  refine j_aload_n X 3 rfl dL_viewByLog_0 rfl ?_
  refine j_iconst X (0 : Int32) dL_viewByLog_1 (by rfl) ?_
  refine j_aload_n X 0 rfl dL_viewByLog_2 rfl ?_
  refine j_iload_n X 1 rfl dL_viewByLog_3 rfl ?_
  refine j_iload_n X 2 rfl dL_viewByLog_4 rfl ?_
  refine j_callVT X 0 0 (fun t => match t with | 0 => 13 | 1 => 0 | _ => 0) (c_X10_viewByLog X.tr S X9 (zD (kB κ)) L hL p1 p2) me_X10_viewByLog ml_L_63 iv_X10_viewByLog cf_X10 dL_viewByLog_5 (memG_at kf_0) (rest := [.int 0, .ref (kB κ + 387)]) rfl rfl (by decide) (by decide) (Nat.le_of_ble_eq_true rfl) zD_mono (fun t S1 hne => ?_) (fun t S1 M1 q hM1 => ?_) (fun v S1 M1 hM1 => ?_)
  · match t, hne with
    | 0, _ => exact ⟨[], (⟨0, 10, 13, 13⟩ : ExceptionTableEntry), [], htab, (fun z hz => nomatch hz), by decide, by decide, cl_L_13, ca_E1, rfl⟩
    | 1, hne => exact absurd rfl hne
    | 2, hne => exact absurd rfl hne
    | t + 3, hne => exact absurd rfl hne
  · subst hM1
    have hw1 := hw
    have hL1 := hL
    have hf1 : ∀ q : Nat, q < kB κ + 387 → q ≠ kB κ + 66 → X9 q = X9 q := fun _ _ _ => rfl
    match t with
    | 0 =>
      refine j_eq (o1 := some (0, (1 : Int32), (S1, L, w))) rfl (j_pc (pc1 := 13) rfl ?_)
      refine j_astore X [(4, .ref q), (0, .ref (kB κ + 0)), (1, .int p1), (2, .int p2), (3, .ref (kB κ + 387))] dL_viewByLog_13 (by decide) rfl ?_
      refine j_iconst X (1 : Int32) dL_viewByLog_15 (by rfl) ?_
      exact j_iret X dL_viewByLog_16 ⟨_, rfl, hL1, hw1, hf1⟩ (fun _ h => h)
    | 1 => exact j_eq (o1 := none) rfl j_none
    | 2 => exact j_eq (o1 := none) rfl j_none
    | t + 3 => exact j_eq (o1 := none) rfl j_none
  · subst hM1
    have hw1 := hw
    have hL1 := hL
    have hf1 : ∀ q : Nat, q < kB κ + 387 → q ≠ kB κ + 66 → X9 q = X9 q := fun _ _ _ => rfl
    refine j_st (st1 := [.int v, .int 0, .ref (kB κ + 387)]) rfl ?_
    refine j_i2l X dL_viewByLog_8 ?_
    refine j_last X v01 dL_viewByLog_9 (Nat.le_add_right _ _) ((memG_out (Or.inr (by omega))).trans hw1) ?_
    rw [memG_upX (by omega)]
    refine j_goto X 17 dL_viewByLog_10 (by decide) ?_
    refine j_iconst X (0 : Int32) dL_viewByLog_17 (by rfl) ?_
    exact j_iret X dL_viewByLog_18 ⟨_, rfl, hL1.out, jUp_eq, fun q q1 q2 => (jUp_ne (by omega)).trans (hf1 q q1 q2)⟩ (fun _ h => h)
def f_L_ruleFor (S : jS) (L : jLg) (w : Nat → Int64) (p1 : Int32) (p2 : Int32) : Option (jR jLS) := jcat (f_X10_ruleFor S p1 p2) (fun v S1 => some (0, (0 : Int32), (S, L, vp_updL w (0 : Int32).toNatClampNeg v.toInt64))) (fun t S1 => if t = 1 then some (0, (1 : Int32), (S, L, w)) else none)
abbrev rm_L_ruleFor : Room := { frames := 9, cells := 2, slots := 12, locals := 154 }
abbrev hh_L_ruleFor : List (Nat × Nat × Nat × Nat) := [(0, 10, 13, 13)]
set_option maxHeartbeats 4000000 in
set_option maxRecDepth 100000 in
theorem c_L_ruleFor {l : Launch} {D : va_G} {B t0 : Nat} (hl9 : l.stackTraces = false) (S : jS) (X9 : jMem) (L : jLg) (w : Nat → Int64) (hL : LogX D B t0 L X9) (hw : X9 (B + 387) = some (outC D w)) (p1 : Int32) (p2 : Int32) : jCfH l D B t0 yL_ruleFor cL_ruleFor 5 (some .int) hh_L_ruleFor rm_L_ruleFor [.ref (B + 0), .int p1, .int p2, .ref (B + 387)] (memG 0 358 D B S X9) (zD B) (f_L_ruleFor S L w p1 p2) rvI (LPM D B t0 X9) (zD B) := by
  refine jC_ofH hl9 [(0, .ref (B + 0)), (1, .int p1), (2, .int p2), (3, .ref (B + 387))] ⟨by decide +kernel, Nat.le_of_ble_eq_true rfl⟩ rfl (fun κ hl hD hB hT X htab => ?_)
  subst hl hD hB hT
  have X : jX κ RL cL_ruleFor 5 (some .int) := X
  unfold f_L_ruleFor
  refine j_aload_n X 3 rfl dL_ruleFor_0 rfl ?_
  refine j_iconst X (0 : Int32) dL_ruleFor_1 (by rfl) ?_
  refine j_aload_n X 0 rfl dL_ruleFor_2 rfl ?_
  refine j_iload_n X 1 rfl dL_ruleFor_3 rfl ?_
  refine j_iload_n X 2 rfl dL_ruleFor_4 rfl ?_
  refine j_callVT X 0 0 (fun t => match t with | 0 => 13 | 1 => 0 | _ => 0) (c_X10_ruleFor X.tr S X9 (zD (kB κ)) p1 p2) me_X10_ruleFor ml_L_66 iv_X10_ruleFor cf_X10 dL_ruleFor_5 (memG_at kf_0) (rest := [.int 0, .ref (kB κ + 387)]) rfl rfl (by decide) (by decide) (Nat.le_of_ble_eq_true rfl) zD_mono (fun t S1 hne => ?_) (fun t S1 M1 q hM1 => ?_) (fun v S1 M1 hM1 => ?_)
  · match t, hne with
    | 0, _ => exact ⟨[], (⟨0, 10, 13, 13⟩ : ExceptionTableEntry), [], htab, (fun z hz => nomatch hz), by decide, by decide, cl_L_13, ca_E1, rfl⟩
    | 1, hne => exact absurd rfl hne
    | 2, hne => exact absurd rfl hne
    | t + 3, hne => exact absurd rfl hne
  · subst hM1
    have hw1 := hw
    have hL1 := hL
    have hf1 : ∀ q : Nat, q < kB κ + 387 → q ≠ kB κ + 66 → X9 q = X9 q := fun _ _ _ => rfl
    match t with
    | 0 =>
      refine j_eq (o1 := some (0, (1 : Int32), (S, L, w))) rfl (j_pc (pc1 := 13) rfl ?_)
      refine j_astore X [(4, .ref q), (0, .ref (kB κ + 0)), (1, .int p1), (2, .int p2), (3, .ref (kB κ + 387))] dL_ruleFor_13 (by decide) rfl ?_
      refine j_iconst X (1 : Int32) dL_ruleFor_15 (by rfl) ?_
      exact j_iret X dL_ruleFor_16 ⟨_, rfl, hL1, hw1, hf1⟩ (fun _ h => h)
    | 1 => exact j_eq (o1 := none) rfl j_none
    | 2 => exact j_eq (o1 := none) rfl j_none
    | t + 3 => exact j_eq (o1 := none) rfl j_none
  · subst hM1
    have hw1 := hw
    have hL1 := hL
    have hf1 : ∀ q : Nat, q < kB κ + 387 → q ≠ kB κ + 66 → X9 q = X9 q := fun _ _ _ => rfl
    refine j_st (st1 := [.int v, .int 0, .ref (kB κ + 387)]) rfl ?_
    refine j_i2l X dL_ruleFor_8 ?_
    refine j_last X v01 dL_ruleFor_9 (Nat.le_add_right _ _) ((memG_out (Or.inr (by omega))).trans hw1) ?_
    rw [memG_upX (by omega)]
    refine j_goto X 17 dL_ruleFor_10 (by decide) ?_
    refine j_iconst X (0 : Int32) dL_ruleFor_17 (by rfl) ?_
    exact j_iret X dL_ruleFor_18 ⟨_, rfl, hL1.out, jUp_eq, fun q q1 q2 => (jUp_ne (by omega)).trans (hf1 q q1 q2)⟩ (fun _ h => h)
def f_L_reach (S : jS) (L : jLg) (w : Nat → Int64) (p1 : Int32) (p2 : Int32) : Option (jR jLS) := jcat (f_X10_reach S p1 p2) (fun v S1 => some (0, (0 : Int32), (S1, L, vp_updL w (0 : Int32).toNatClampNeg v.toInt64))) (fun t S1 => if t = 1 then some (0, (1 : Int32), (S1, L, w)) else none)
abbrev rm_L_reach : Room := { frames := 9, cells := 2, slots := 12, locals := 171 }
abbrev hh_L_reach : List (Nat × Nat × Nat × Nat) := [(0, 10, 13, 13)]
set_option maxHeartbeats 4000000 in
set_option maxRecDepth 100000 in
theorem c_L_reach {l : Launch} {D : va_G} {B t0 : Nat} (hl9 : l.stackTraces = false) (S : jS) (X9 : jMem) (L : jLg) (w : Nat → Int64) (hL : LogX D B t0 L X9) (hw : X9 (B + 387) = some (outC D w)) (p1 : Int32) (p2 : Int32) : jCfH l D B t0 yL_reach cL_reach 5 (some .int) hh_L_reach rm_L_reach [.ref (B + 0), .int p1, .int p2, .ref (B + 387)] (memG 0 358 D B S X9) (zD B) (f_L_reach S L w p1 p2) rvI (LPM D B t0 X9) (zD B) := by
  refine jC_ofH hl9 [(0, .ref (B + 0)), (1, .int p1), (2, .int p2), (3, .ref (B + 387))] ⟨by decide +kernel, Nat.le_of_ble_eq_true rfl⟩ rfl (fun κ hl hD hB hT X htab => ?_)
  subst hl hD hB hT
  have X : jX κ RL cL_reach 5 (some .int) := X
  unfold f_L_reach
  refine j_aload_n X 3 rfl dL_reach_0 rfl ?_
  refine j_iconst X (0 : Int32) dL_reach_1 (by rfl) ?_
  refine j_aload_n X 0 rfl dL_reach_2 rfl ?_
  refine j_iload_n X 1 rfl dL_reach_3 rfl ?_
  refine j_iload_n X 2 rfl dL_reach_4 rfl ?_
  refine j_callVT X 0 0 (fun t => match t with | 0 => 13 | 1 => 0 | _ => 0) (c_X10_reach X.tr S X9 (zD (kB κ)) p1 p2) me_X10_reach ml_L_69 iv_X10_reach cf_X10 dL_reach_5 (memG_at kf_0) (rest := [.int 0, .ref (kB κ + 387)]) rfl rfl (by decide) (by decide) (Nat.le_of_ble_eq_true rfl) zD_mono (fun t S1 hne => ?_) (fun t S1 M1 q hM1 => ?_) (fun v S1 M1 hM1 => ?_)
  · match t, hne with
    | 0, _ => exact ⟨[], (⟨0, 10, 13, 13⟩ : ExceptionTableEntry), [], htab, (fun z hz => nomatch hz), by decide, by decide, cl_L_13, ca_E1, rfl⟩
    | 1, hne => exact absurd rfl hne
    | 2, hne => exact absurd rfl hne
    | t + 3, hne => exact absurd rfl hne
  · subst hM1
    have hw1 := hw
    have hL1 := hL
    have hf1 : ∀ q : Nat, q < kB κ + 387 → q ≠ kB κ + 66 → X9 q = X9 q := fun _ _ _ => rfl
    match t with
    | 0 =>
      refine j_eq (o1 := some (0, (1 : Int32), (S1, L, w))) rfl (j_pc (pc1 := 13) rfl ?_)
      refine j_astore X [(4, .ref q), (0, .ref (kB κ + 0)), (1, .int p1), (2, .int p2), (3, .ref (kB κ + 387))] dL_reach_13 (by decide) rfl ?_
      refine j_iconst X (1 : Int32) dL_reach_15 (by rfl) ?_
      exact j_iret X dL_reach_16 ⟨_, rfl, hL1, hw1, hf1⟩ (fun _ h => h)
    | 1 => exact j_eq (o1 := none) rfl j_none
    | 2 => exact j_eq (o1 := none) rfl j_none
    | t + 3 => exact j_eq (o1 := none) rfl j_none
  · subst hM1
    have hw1 := hw
    have hL1 := hL
    have hf1 : ∀ q : Nat, q < kB κ + 387 → q ≠ kB κ + 66 → X9 q = X9 q := fun _ _ _ => rfl
    refine j_st (st1 := [.int v, .int 0, .ref (kB κ + 387)]) rfl ?_
    refine j_i2l X dL_reach_8 ?_
    refine j_last X v01 dL_reach_9 (Nat.le_add_right _ _) ((memG_out (Or.inr (by omega))).trans hw1) ?_
    rw [memG_upX (by omega)]
    refine j_goto X 17 dL_reach_10 (by decide) ?_
    refine j_iconst X (0 : Int32) dL_reach_17 (by rfl) ?_
    exact j_iret X dL_reach_18 ⟨_, rfl, hL1.out, jUp_eq, fun q q1 q2 => (jUp_ne (by omega)).trans (hf1 q q1 q2)⟩ (fun _ h => h)
def f_L_show (S : jS) (L : jLg) (w : Nat → Int64) (p1 : Int32) (p2 : Int32) : Option (jR jLS) := jcat (f_X10_show S L p1 p2) (fun v S1 => some (0, (0 : Int32), (S1.1, S1.2, vp_updL w (0 : Int32).toNatClampNeg v.toInt64))) (fun t S1 => if t = 1 then some (0, (1 : Int32), (S1.1, S1.2, w)) else if t = 2 then some (0, (2 : Int32), (S1.1, S1.2, w)) else none)
abbrev rm_L_show : Room := { frames := 9, cells := 5, slots := 623, locals := 246 }
abbrev hh_L_show : List (Nat × Nat × Nat × Nat) := [(0, 10, 13, 13), (0, 10, 17, 23)]
set_option maxHeartbeats 4000000 in
set_option maxRecDepth 100000 in
theorem c_L_show {l : Launch} {D : va_G} {B t0 : Nat} (hl9 : l.stackTraces = false) (S : jS) (X9 : jMem) (L : jLg) (w : Nat → Int64) (hL : LogX D B t0 L X9) (hw : X9 (B + 387) = some (outC D w)) (p1 : Int32) (p2 : Int32) : jCfH l D B t0 yL_show cL_show 5 (some .int) hh_L_show rm_L_show [.ref (B + 0), .int p1, .int p2, .ref (B + 387)] (memG 0 358 D B S X9) (zD B) (f_L_show S L w p1 p2) rvI (LPM D B t0 X9) (zD B) := by
  refine jC_ofH hl9 [(0, .ref (B + 0)), (1, .int p1), (2, .int p2), (3, .ref (B + 387))] ⟨by decide +kernel, Nat.le_of_ble_eq_true rfl⟩ rfl (fun κ hl hD hB hT X htab => ?_)
  subst hl hD hB hT
  have X : jX κ RL cL_show 5 (some .int) := X
  unfold f_L_show
  refine j_aload_n X 3 rfl dL_show_0 rfl ?_
  refine j_iconst X (0 : Int32) dL_show_1 (by rfl) ?_
  refine j_aload_n X 0 rfl dL_show_2 rfl ?_
  refine j_iload_n X 1 rfl dL_show_3 rfl ?_
  refine j_iload_n X 2 rfl dL_show_4 rfl ?_
  refine j_callVT X 0 0 (fun t => match t with | 0 => 13 | 1 => 17 | _ => 0) (c_X10_show X.tr S X9 L hL p1 p2) me_X10_show ml_L_72 iv_X10_show cf_X10 dL_show_5 (memG_at kf_0) (rest := [.int 0, .ref (kB κ + 387)]) rfl rfl (by decide) (by decide) (Nat.le_of_ble_eq_true rfl) zD_mono (fun t S1 hne => ?_) (fun t S1 M1 q hM1 => ?_) (fun v S1 M1 hM1 => ?_)
  · match t, hne with
    | 0, _ => exact ⟨[], (⟨0, 10, 13, 13⟩ : ExceptionTableEntry), [(⟨0, 10, 17, 23⟩ : ExceptionTableEntry)], htab, (fun z hz => nomatch hz), by decide, by decide, cl_L_13, ca_E1, rfl⟩
    | 1, _ => exact ⟨[(⟨0, 10, 13, 13⟩ : ExceptionTableEntry)], (⟨0, 10, 17, 23⟩ : ExceptionTableEntry), [], htab, (fun z hz => by
        simp only [List.mem_cons, List.not_mem_nil, or_false] at hz
        subst hz
        exact Or.inr ⟨by decide, _, cl_L_13, X.k.1.2.1⟩), by decide, by decide, cl_L_23, ca_E2, rfl⟩
    | 2, hne => exact absurd rfl hne
    | t + 3, hne => exact absurd rfl hne
  · obtain ⟨X1, rfl, hK⟩ := hM1
    have hw1 : X1 (kB κ + 387) = some (outC (kD κ) w) := (hK.2 _ (by omega) (by omega)).trans hw
    have hL1 := hK.1
    have hf1 : ∀ q : Nat, q < kB κ + 387 → q ≠ kB κ + 66 → X1 q = X9 q := fun q q1 q2 => hK.2 q (by omega) q2
    match t with
    | 0 =>
      refine j_eq (o1 := some (0, (1 : Int32), (S1.1, S1.2, w))) rfl (j_pc (pc1 := 13) rfl ?_)
      refine j_astore X [(4, .ref q), (0, .ref (kB κ + 0)), (1, .int p1), (2, .int p2), (3, .ref (kB κ + 387))] dL_show_13 (by decide) rfl ?_
      refine j_iconst X (1 : Int32) dL_show_15 (by rfl) ?_
      exact j_iret X dL_show_16 ⟨_, rfl, hL1, hw1, hf1⟩ (fun _ h => h)
    | 1 =>
      refine j_eq (o1 := some (0, (2 : Int32), (S1.1, S1.2, w))) rfl (j_pc (pc1 := 17) rfl ?_)
      refine j_astore X [(4, .ref q), (0, .ref (kB κ + 0)), (1, .int p1), (2, .int p2), (3, .ref (kB κ + 387))] dL_show_17 (by decide) rfl ?_
      refine j_iconst X (2 : Int32) dL_show_19 (by rfl) ?_
      exact j_iret X dL_show_20 ⟨_, rfl, hL1, hw1, hf1⟩ (fun _ h => h)
    | 2 => exact j_eq (o1 := none) rfl j_none
    | t + 3 => exact j_eq (o1 := none) rfl j_none
  · obtain ⟨X1, rfl, hK⟩ := hM1
    have hw1 : X1 (kB κ + 387) = some (outC (kD κ) w) := (hK.2 _ (by omega) (by omega)).trans hw
    have hL1 := hK.1
    have hf1 : ∀ q : Nat, q < kB κ + 387 → q ≠ kB κ + 66 → X1 q = X9 q := fun q q1 q2 => hK.2 q (by omega) q2
    refine j_st (st1 := [.int v, .int 0, .ref (kB κ + 387)]) rfl ?_
    refine j_i2l X dL_show_8 ?_
    refine j_last X v01 dL_show_9 (Nat.le_add_right _ _) ((memG_out (Or.inr (by omega))).trans hw1) ?_
    rw [memG_upX (by omega)]
    refine j_goto X 21 dL_show_10 (by decide) ?_
    refine j_iconst X (0 : Int32) dL_show_21 (by rfl) ?_
    exact j_iret X dL_show_22 ⟨_, rfl, hL1.out, jUp_eq, fun q q1 q2 => (jUp_ne (by omega)).trans (hf1 q q1 q2)⟩ (fun _ h => h)
def f_L_setShares (S : jS) (L : jLg) (w : Nat → Int64) (p1 : Int32) (p2 : Int32) (p3 : Int32) (p4 : Int32) (p5 : Int32) : Option (jR jLS) := jcat (f_X10_setShares S p1 p2 p3 p4 p5) (fun v S1 => some (0, (0 : Int32), (S1, L, vp_updL w (0 : Int32).toNatClampNeg v.toInt64))) (fun t S1 => if t = 1 then some (0, (1 : Int32), (S1, L, w)) else if t = 2 then some (0, (2 : Int32), (S1, L, w)) else none)
abbrev rm_L_setShares : Room := { frames := 9, cells := 6, slots := 36, locals := 158 }
abbrev hh_L_setShares : List (Nat × Nat × Nat × Nat) := [(0, 16, 19, 13), (0, 16, 23, 23)]
set_option maxHeartbeats 4000000 in
set_option maxRecDepth 100000 in
theorem c_L_setShares {l : Launch} {D : va_G} {B t0 : Nat} (hl9 : l.stackTraces = false) (S : jS) (X9 : jMem) (L : jLg) (w : Nat → Int64) (hL : LogX D B t0 L X9) (hw : X9 (B + 387) = some (outC D w)) (p1 : Int32) (p2 : Int32) (p3 : Int32) (p4 : Int32) (p5 : Int32) : jCfH l D B t0 yL_setShares cL_setShares 8 (some .int) hh_L_setShares rm_L_setShares [.ref (B + 0), .int p1, .int p2, .int p3, .int p4, .int p5, .ref (B + 387)] (memG 0 358 D B S X9) (zD B) (f_L_setShares S L w p1 p2 p3 p4 p5) rvI (LPM D B t0 X9) (zD B) := by
  refine jC_ofH hl9 [(0, .ref (B + 0)), (1, .int p1), (2, .int p2), (3, .int p3), (4, .int p4), (5, .int p5), (6, .ref (B + 387))] ⟨by decide +kernel, Nat.le_of_ble_eq_true rfl⟩ rfl (fun κ hl hD hB hT X htab => ?_)
  subst hl hD hB hT
  have X : jX κ RL cL_setShares 8 (some .int) := X
  unfold f_L_setShares
  refine j_aload X 6 rfl dL_setShares_0 ?_
  refine j_iconst X (0 : Int32) dL_setShares_2 (by rfl) ?_
  refine j_aload_n X 0 rfl dL_setShares_3 rfl ?_
  refine j_iload_n X 1 rfl dL_setShares_4 rfl ?_
  refine j_iload_n X 2 rfl dL_setShares_5 rfl ?_
  refine j_iload_n X 3 rfl dL_setShares_6 rfl ?_
  refine j_iload X 4 rfl dL_setShares_7 ?_
  refine j_iload X 5 rfl dL_setShares_9 ?_
  refine j_callVT X 0 0 (fun t => match t with | 0 => 19 | 1 => 23 | _ => 0) (c_X10_setShares X.tr S X9 (zD (kB κ)) p1 p2 p3 p4 p5) me_X10_setShares ml_L_75 iv_X10_setShares cf_X10 dL_setShares_11 (memG_at kf_0) (rest := [.int 0, .ref (kB κ + 387)]) rfl rfl (by decide) (by decide) (Nat.le_of_ble_eq_true rfl) zD_mono (fun t S1 hne => ?_) (fun t S1 M1 q hM1 => ?_) (fun v S1 M1 hM1 => ?_)
  · match t, hne with
    | 0, _ => exact ⟨[], (⟨0, 16, 19, 13⟩ : ExceptionTableEntry), [(⟨0, 16, 23, 23⟩ : ExceptionTableEntry)], htab, (fun z hz => nomatch hz), by decide, by decide, cl_L_13, ca_E1, rfl⟩
    | 1, _ => exact ⟨[(⟨0, 16, 19, 13⟩ : ExceptionTableEntry)], (⟨0, 16, 23, 23⟩ : ExceptionTableEntry), [], htab, (fun z hz => by
        simp only [List.mem_cons, List.not_mem_nil, or_false] at hz
        subst hz
        exact Or.inr ⟨by decide, _, cl_L_13, X.k.1.2.1⟩), by decide, by decide, cl_L_23, ca_E2, rfl⟩
    | 2, hne => exact absurd rfl hne
    | t + 3, hne => exact absurd rfl hne
  · subst hM1
    have hw1 := hw
    have hL1 := hL
    have hf1 : ∀ q : Nat, q < kB κ + 387 → q ≠ kB κ + 66 → X9 q = X9 q := fun _ _ _ => rfl
    match t with
    | 0 =>
      refine j_eq (o1 := some (0, (1 : Int32), (S1, L, w))) rfl (j_pc (pc1 := 19) rfl ?_)
      refine j_astore X [(7, .ref q), (0, .ref (kB κ + 0)), (1, .int p1), (2, .int p2), (3, .int p3), (4, .int p4), (5, .int p5), (6, .ref (kB κ + 387))] dL_setShares_19 (by decide) rfl ?_
      refine j_iconst X (1 : Int32) dL_setShares_21 (by rfl) ?_
      exact j_iret X dL_setShares_22 ⟨_, rfl, hL1, hw1, hf1⟩ (fun _ h => h)
    | 1 =>
      refine j_eq (o1 := some (0, (2 : Int32), (S1, L, w))) rfl (j_pc (pc1 := 23) rfl ?_)
      refine j_astore X [(7, .ref q), (0, .ref (kB κ + 0)), (1, .int p1), (2, .int p2), (3, .int p3), (4, .int p4), (5, .int p5), (6, .ref (kB κ + 387))] dL_setShares_23 (by decide) rfl ?_
      refine j_iconst X (2 : Int32) dL_setShares_25 (by rfl) ?_
      exact j_iret X dL_setShares_26 ⟨_, rfl, hL1, hw1, hf1⟩ (fun _ h => h)
    | 2 => exact j_eq (o1 := none) rfl j_none
    | t + 3 => exact j_eq (o1 := none) rfl j_none
  · subst hM1
    have hw1 := hw
    have hL1 := hL
    have hf1 : ∀ q : Nat, q < kB κ + 387 → q ≠ kB κ + 66 → X9 q = X9 q := fun _ _ _ => rfl
    refine j_st (st1 := [.int v, .int 0, .ref (kB κ + 387)]) rfl ?_
    refine j_i2l X dL_setShares_14 ?_
    refine j_last X v01 dL_setShares_15 (Nat.le_add_right _ _) ((memG_out (Or.inr (by omega))).trans hw1) ?_
    rw [memG_upX (by omega)]
    refine j_goto X 27 dL_setShares_16 (by decide) ?_
    refine j_iconst X (0 : Int32) dL_setShares_27 (by rfl) ?_
    exact j_iret X dL_setShares_28 ⟨_, rfl, hL1.out, jUp_eq, fun q q1 q2 => (jUp_ne (by omega)).trans (hf1 q q1 q2)⟩ (fun _ h => h)
def f_L_setSalt (S : jS) (L : jLg) (w : Nat → Int64) (p1 : Int32) (p2 : Int32) : Option (jR jLS) := jcat (f_X10_setSalt S p1 p2) (fun v S1 => some (0, (0 : Int32), (S1, L, vp_updL w (0 : Int32).toNatClampNeg v.toInt64))) (fun t S1 => if t = 1 then some (0, (1 : Int32), (S1, L, w)) else if t = 2 then some (0, (2 : Int32), (S1, L, w)) else none)
abbrev rm_L_setSalt : Room := { frames := 9, cells := 3, slots := 18, locals := 155 }
abbrev hh_L_setSalt : List (Nat × Nat × Nat × Nat) := [(0, 10, 13, 13), (0, 10, 17, 23)]
set_option maxHeartbeats 4000000 in
set_option maxRecDepth 100000 in
theorem c_L_setSalt {l : Launch} {D : va_G} {B t0 : Nat} (hl9 : l.stackTraces = false) (S : jS) (X9 : jMem) (L : jLg) (w : Nat → Int64) (hL : LogX D B t0 L X9) (hw : X9 (B + 387) = some (outC D w)) (p1 : Int32) (p2 : Int32) : jCfH l D B t0 yL_setSalt cL_setSalt 5 (some .int) hh_L_setSalt rm_L_setSalt [.ref (B + 0), .int p1, .int p2, .ref (B + 387)] (memG 0 358 D B S X9) (zD B) (f_L_setSalt S L w p1 p2) rvI (LPM D B t0 X9) (zD B) := by
  refine jC_ofH hl9 [(0, .ref (B + 0)), (1, .int p1), (2, .int p2), (3, .ref (B + 387))] ⟨by decide +kernel, Nat.le_of_ble_eq_true rfl⟩ rfl (fun κ hl hD hB hT X htab => ?_)
  subst hl hD hB hT
  have X : jX κ RL cL_setSalt 5 (some .int) := X
  unfold f_L_setSalt
  refine j_aload_n X 3 rfl dL_setSalt_0 rfl ?_
  refine j_iconst X (0 : Int32) dL_setSalt_1 (by rfl) ?_
  refine j_aload_n X 0 rfl dL_setSalt_2 rfl ?_
  refine j_iload_n X 1 rfl dL_setSalt_3 rfl ?_
  refine j_iload_n X 2 rfl dL_setSalt_4 rfl ?_
  refine j_callVT X 0 0 (fun t => match t with | 0 => 13 | 1 => 17 | _ => 0) (c_X10_setSalt X.tr S X9 (zD (kB κ)) p1 p2) me_X10_setSalt ml_L_79 iv_X10_setSalt cf_X10 dL_setSalt_5 (memG_at kf_0) (rest := [.int 0, .ref (kB κ + 387)]) rfl rfl (by decide) (by decide) (Nat.le_of_ble_eq_true rfl) zD_mono (fun t S1 hne => ?_) (fun t S1 M1 q hM1 => ?_) (fun v S1 M1 hM1 => ?_)
  · match t, hne with
    | 0, _ => exact ⟨[], (⟨0, 10, 13, 13⟩ : ExceptionTableEntry), [(⟨0, 10, 17, 23⟩ : ExceptionTableEntry)], htab, (fun z hz => nomatch hz), by decide, by decide, cl_L_13, ca_E1, rfl⟩
    | 1, _ => exact ⟨[(⟨0, 10, 13, 13⟩ : ExceptionTableEntry)], (⟨0, 10, 17, 23⟩ : ExceptionTableEntry), [], htab, (fun z hz => by
        simp only [List.mem_cons, List.not_mem_nil, or_false] at hz
        subst hz
        exact Or.inr ⟨by decide, _, cl_L_13, X.k.1.2.1⟩), by decide, by decide, cl_L_23, ca_E2, rfl⟩
    | 2, hne => exact absurd rfl hne
    | t + 3, hne => exact absurd rfl hne
  · subst hM1
    have hw1 := hw
    have hL1 := hL
    have hf1 : ∀ q : Nat, q < kB κ + 387 → q ≠ kB κ + 66 → X9 q = X9 q := fun _ _ _ => rfl
    match t with
    | 0 =>
      refine j_eq (o1 := some (0, (1 : Int32), (S1, L, w))) rfl (j_pc (pc1 := 13) rfl ?_)
      refine j_astore X [(4, .ref q), (0, .ref (kB κ + 0)), (1, .int p1), (2, .int p2), (3, .ref (kB κ + 387))] dL_setSalt_13 (by decide) rfl ?_
      refine j_iconst X (1 : Int32) dL_setSalt_15 (by rfl) ?_
      exact j_iret X dL_setSalt_16 ⟨_, rfl, hL1, hw1, hf1⟩ (fun _ h => h)
    | 1 =>
      refine j_eq (o1 := some (0, (2 : Int32), (S1, L, w))) rfl (j_pc (pc1 := 17) rfl ?_)
      refine j_astore X [(4, .ref q), (0, .ref (kB κ + 0)), (1, .int p1), (2, .int p2), (3, .ref (kB κ + 387))] dL_setSalt_17 (by decide) rfl ?_
      refine j_iconst X (2 : Int32) dL_setSalt_19 (by rfl) ?_
      exact j_iret X dL_setSalt_20 ⟨_, rfl, hL1, hw1, hf1⟩ (fun _ h => h)
    | 2 => exact j_eq (o1 := none) rfl j_none
    | t + 3 => exact j_eq (o1 := none) rfl j_none
  · subst hM1
    have hw1 := hw
    have hL1 := hL
    have hf1 : ∀ q : Nat, q < kB κ + 387 → q ≠ kB κ + 66 → X9 q = X9 q := fun _ _ _ => rfl
    refine j_st (st1 := [.int v, .int 0, .ref (kB κ + 387)]) rfl ?_
    refine j_i2l X dL_setSalt_8 ?_
    refine j_last X v01 dL_setSalt_9 (Nat.le_add_right _ _) ((memG_out (Or.inr (by omega))).trans hw1) ?_
    rw [memG_upX (by omega)]
    refine j_goto X 21 dL_setSalt_10 (by decide) ?_
    refine j_iconst X (0 : Int32) dL_setSalt_21 (by rfl) ?_
    exact j_iret X dL_setSalt_22 ⟨_, rfl, hL1.out, jUp_eq, fun q q1 q2 => (jUp_ne (by omega)).trans (hf1 q q1 q2)⟩ (fun _ h => h)
def f_L_stop (S : jS) (L : jLg) (w : Nat → Int64) (p1 : Int32) (p2 : Int32) : Option (jR jLS) := jcat (f_X10_stop S p1 p2) (fun v S1 => some (0, (0 : Int32), (S1, L, vp_updL w (0 : Int32).toNatClampNeg v.toInt64))) (fun t S1 => if t = 1 then some (0, (1 : Int32), (S1, L, w)) else if t = 2 then some (0, (2 : Int32), (S1, L, w)) else none)
abbrev rm_L_stop : Room := { frames := 9, cells := 3, slots := 18, locals := 156 }
abbrev hh_L_stop : List (Nat × Nat × Nat × Nat) := [(0, 10, 13, 13), (0, 10, 17, 23)]
set_option maxHeartbeats 4000000 in
set_option maxRecDepth 100000 in
theorem c_L_stop {l : Launch} {D : va_G} {B t0 : Nat} (hl9 : l.stackTraces = false) (S : jS) (X9 : jMem) (L : jLg) (w : Nat → Int64) (hL : LogX D B t0 L X9) (hw : X9 (B + 387) = some (outC D w)) (p1 : Int32) (p2 : Int32) : jCfH l D B t0 yL_stop cL_stop 5 (some .int) hh_L_stop rm_L_stop [.ref (B + 0), .int p1, .int p2, .ref (B + 387)] (memG 0 358 D B S X9) (zD B) (f_L_stop S L w p1 p2) rvI (LPM D B t0 X9) (zD B) := by
  refine jC_ofH hl9 [(0, .ref (B + 0)), (1, .int p1), (2, .int p2), (3, .ref (B + 387))] ⟨by decide +kernel, Nat.le_of_ble_eq_true rfl⟩ rfl (fun κ hl hD hB hT X htab => ?_)
  subst hl hD hB hT
  have X : jX κ RL cL_stop 5 (some .int) := X
  unfold f_L_stop
  refine j_aload_n X 3 rfl dL_stop_0 rfl ?_
  refine j_iconst X (0 : Int32) dL_stop_1 (by rfl) ?_
  refine j_aload_n X 0 rfl dL_stop_2 rfl ?_
  refine j_iload_n X 1 rfl dL_stop_3 rfl ?_
  refine j_iload_n X 2 rfl dL_stop_4 rfl ?_
  refine j_callVT X 0 0 (fun t => match t with | 0 => 13 | 1 => 17 | _ => 0) (c_X10_stop X.tr S X9 (zD (kB κ)) p1 p2) me_X10_stop ml_L_82 iv_X10_stop cf_X10 dL_stop_5 (memG_at kf_0) (rest := [.int 0, .ref (kB κ + 387)]) rfl rfl (by decide) (by decide) (Nat.le_of_ble_eq_true rfl) zD_mono (fun t S1 hne => ?_) (fun t S1 M1 q hM1 => ?_) (fun v S1 M1 hM1 => ?_)
  · match t, hne with
    | 0, _ => exact ⟨[], (⟨0, 10, 13, 13⟩ : ExceptionTableEntry), [(⟨0, 10, 17, 23⟩ : ExceptionTableEntry)], htab, (fun z hz => nomatch hz), by decide, by decide, cl_L_13, ca_E1, rfl⟩
    | 1, _ => exact ⟨[(⟨0, 10, 13, 13⟩ : ExceptionTableEntry)], (⟨0, 10, 17, 23⟩ : ExceptionTableEntry), [], htab, (fun z hz => by
        simp only [List.mem_cons, List.not_mem_nil, or_false] at hz
        subst hz
        exact Or.inr ⟨by decide, _, cl_L_13, X.k.1.2.1⟩), by decide, by decide, cl_L_23, ca_E2, rfl⟩
    | 2, hne => exact absurd rfl hne
    | t + 3, hne => exact absurd rfl hne
  · subst hM1
    have hw1 := hw
    have hL1 := hL
    have hf1 : ∀ q : Nat, q < kB κ + 387 → q ≠ kB κ + 66 → X9 q = X9 q := fun _ _ _ => rfl
    match t with
    | 0 =>
      refine j_eq (o1 := some (0, (1 : Int32), (S1, L, w))) rfl (j_pc (pc1 := 13) rfl ?_)
      refine j_astore X [(4, .ref q), (0, .ref (kB κ + 0)), (1, .int p1), (2, .int p2), (3, .ref (kB κ + 387))] dL_stop_13 (by decide) rfl ?_
      refine j_iconst X (1 : Int32) dL_stop_15 (by rfl) ?_
      exact j_iret X dL_stop_16 ⟨_, rfl, hL1, hw1, hf1⟩ (fun _ h => h)
    | 1 =>
      refine j_eq (o1 := some (0, (2 : Int32), (S1, L, w))) rfl (j_pc (pc1 := 17) rfl ?_)
      refine j_astore X [(4, .ref q), (0, .ref (kB κ + 0)), (1, .int p1), (2, .int p2), (3, .ref (kB κ + 387))] dL_stop_17 (by decide) rfl ?_
      refine j_iconst X (2 : Int32) dL_stop_19 (by rfl) ?_
      exact j_iret X dL_stop_20 ⟨_, rfl, hL1, hw1, hf1⟩ (fun _ h => h)
    | 2 => exact j_eq (o1 := none) rfl j_none
    | t + 3 => exact j_eq (o1 := none) rfl j_none
  · subst hM1
    have hw1 := hw
    have hL1 := hL
    have hf1 : ∀ q : Nat, q < kB κ + 387 → q ≠ kB κ + 66 → X9 q = X9 q := fun _ _ _ => rfl
    refine j_st (st1 := [.int v, .int 0, .ref (kB κ + 387)]) rfl ?_
    refine j_i2l X dL_stop_8 ?_
    refine j_last X v01 dL_stop_9 (Nat.le_add_right _ _) ((memG_out (Or.inr (by omega))).trans hw1) ?_
    rw [memG_upX (by omega)]
    refine j_goto X 21 dL_stop_10 (by decide) ?_
    refine j_iconst X (0 : Int32) dL_stop_21 (by rfl) ?_
    exact j_iret X dL_stop_22 ⟨_, rfl, hL1.out, jUp_eq, fun q q1 q2 => (jUp_ne (by omega)).trans (hf1 q q1 q2)⟩ (fun _ h => h)
def f_L_beginAnew (S : jS) (L : jLg) (w : Nat → Int64) (p1 : Int32) : Option (jR jLS) := jcat (f_X10_beginAnew S L p1) (fun v S1 => some (0, (0 : Int32), (S1.1, S1.2, vp_updL w (0 : Int32).toNatClampNeg v.toInt64))) (fun t S1 => if t = 1 then some (0, (1 : Int32), (S1.1, S1.2, w)) else if t = 2 then some (0, (2 : Int32), (S1.1, S1.2, w)) else none)
abbrev rm_L_beginAnew : Room := { frames := 9, cells := 5, slots := 623, locals := 245 }
abbrev hh_L_beginAnew : List (Nat × Nat × Nat × Nat) := [(0, 9, 12, 13), (0, 9, 15, 23)]
set_option maxHeartbeats 4000000 in
set_option maxRecDepth 100000 in
theorem c_L_beginAnew {l : Launch} {D : va_G} {B t0 : Nat} (hl9 : l.stackTraces = false) (S : jS) (X9 : jMem) (L : jLg) (w : Nat → Int64) (hL : LogX D B t0 L X9) (hw : X9 (B + 387) = some (outC D w)) (p1 : Int32) : jCfH l D B t0 yL_beginAnew cL_beginAnew 4 (some .int) hh_L_beginAnew rm_L_beginAnew [.ref (B + 0), .int p1, .ref (B + 387)] (memG 0 358 D B S X9) (zD B) (f_L_beginAnew S L w p1) rvI (LPM D B t0 X9) (zD B) := by
  refine jC_ofH hl9 [(0, .ref (B + 0)), (1, .int p1), (2, .ref (B + 387))] ⟨by decide +kernel, Nat.le_of_ble_eq_true rfl⟩ rfl (fun κ hl hD hB hT X htab => ?_)
  subst hl hD hB hT
  have X : jX κ RL cL_beginAnew 4 (some .int) := X
  unfold f_L_beginAnew
  refine j_aload_n X 2 rfl dL_beginAnew_0 rfl ?_
  refine j_iconst X (0 : Int32) dL_beginAnew_1 (by rfl) ?_
  refine j_aload_n X 0 rfl dL_beginAnew_2 rfl ?_
  refine j_iload_n X 1 rfl dL_beginAnew_3 rfl ?_
  refine j_callVT X 0 0 (fun t => match t with | 0 => 12 | 1 => 15 | _ => 0) (c_X10_beginAnew X.tr S X9 L hL p1) me_X10_beginAnew ml_L_85 iv_X10_beginAnew cf_X10 dL_beginAnew_4 (memG_at kf_0) (rest := [.int 0, .ref (kB κ + 387)]) rfl rfl (by decide) (by decide) (Nat.le_of_ble_eq_true rfl) zD_mono (fun t S1 hne => ?_) (fun t S1 M1 q hM1 => ?_) (fun v S1 M1 hM1 => ?_)
  · match t, hne with
    | 0, _ => exact ⟨[], (⟨0, 9, 12, 13⟩ : ExceptionTableEntry), [(⟨0, 9, 15, 23⟩ : ExceptionTableEntry)], htab, (fun z hz => nomatch hz), by decide, by decide, cl_L_13, ca_E1, rfl⟩
    | 1, _ => exact ⟨[(⟨0, 9, 12, 13⟩ : ExceptionTableEntry)], (⟨0, 9, 15, 23⟩ : ExceptionTableEntry), [], htab, (fun z hz => by
        simp only [List.mem_cons, List.not_mem_nil, or_false] at hz
        subst hz
        exact Or.inr ⟨by decide, _, cl_L_13, X.k.1.2.1⟩), by decide, by decide, cl_L_23, ca_E2, rfl⟩
    | 2, hne => exact absurd rfl hne
    | t + 3, hne => exact absurd rfl hne
  · obtain ⟨X1, rfl, hK⟩ := hM1
    have hw1 : X1 (kB κ + 387) = some (outC (kD κ) w) := (hK.2 _ (by omega) (by omega)).trans hw
    have hL1 := hK.1
    have hf1 : ∀ q : Nat, q < kB κ + 387 → q ≠ kB κ + 66 → X1 q = X9 q := fun q q1 q2 => hK.2 q (by omega) q2
    match t with
    | 0 =>
      refine j_eq (o1 := some (0, (1 : Int32), (S1.1, S1.2, w))) rfl (j_pc (pc1 := 12) rfl ?_)
      refine j_astore_n X [(3, .ref q), (0, .ref (kB κ + 0)), (1, .int p1), (2, .ref (kB κ + 387))] dL_beginAnew_12 rfl (by decide) rfl ?_
      refine j_iconst X (1 : Int32) dL_beginAnew_13 (by rfl) ?_
      exact j_iret X dL_beginAnew_14 ⟨_, rfl, hL1, hw1, hf1⟩ (fun _ h => h)
    | 1 =>
      refine j_eq (o1 := some (0, (2 : Int32), (S1.1, S1.2, w))) rfl (j_pc (pc1 := 15) rfl ?_)
      refine j_astore_n X [(3, .ref q), (0, .ref (kB κ + 0)), (1, .int p1), (2, .ref (kB κ + 387))] dL_beginAnew_15 rfl (by decide) rfl ?_
      refine j_iconst X (2 : Int32) dL_beginAnew_16 (by rfl) ?_
      exact j_iret X dL_beginAnew_17 ⟨_, rfl, hL1, hw1, hf1⟩ (fun _ h => h)
    | 2 => exact j_eq (o1 := none) rfl j_none
    | t + 3 => exact j_eq (o1 := none) rfl j_none
  · obtain ⟨X1, rfl, hK⟩ := hM1
    have hw1 : X1 (kB κ + 387) = some (outC (kD κ) w) := (hK.2 _ (by omega) (by omega)).trans hw
    have hL1 := hK.1
    have hf1 : ∀ q : Nat, q < kB κ + 387 → q ≠ kB κ + 66 → X1 q = X9 q := fun q q1 q2 => hK.2 q (by omega) q2
    refine j_st (st1 := [.int v, .int 0, .ref (kB κ + 387)]) rfl ?_
    refine j_i2l X dL_beginAnew_7 ?_
    refine j_last X v01 dL_beginAnew_8 (Nat.le_add_right _ _) ((memG_out (Or.inr (by omega))).trans hw1) ?_
    rw [memG_upX (by omega)]
    refine j_goto X 18 dL_beginAnew_9 (by decide) ?_
    refine j_iconst X (0 : Int32) dL_beginAnew_18 (by rfl) ?_
    exact j_iret X dL_beginAnew_19 ⟨_, rfl, hL1.out, jUp_eq, fun q q1 q2 => (jUp_ne (by omega)).trans (hf1 q q1 q2)⟩ (fun _ h => h)
def f_L_arm (S : jS) (L : jLg) (w : Nat → Int64) (p1 : Int32) (p2 : Int32) : Option (jR jLS) := jcat (f_X10_arm S p1 p2) (fun v S1 => some (0, (0 : Int32), (S, L, vp_updL w (0 : Int32).toNatClampNeg v.toInt64))) (fun t S1 => if t = 1 then some (0, (1 : Int32), (S, L, w)) else none)
abbrev rm_L_arm : Room := { frames := 9, cells := 2, slots := 12, locals := 154 }
abbrev hh_L_arm : List (Nat × Nat × Nat × Nat) := [(0, 10, 13, 13)]
set_option maxHeartbeats 4000000 in
set_option maxRecDepth 100000 in
theorem c_L_arm {l : Launch} {D : va_G} {B t0 : Nat} (hl9 : l.stackTraces = false) (S : jS) (X9 : jMem) (L : jLg) (w : Nat → Int64) (hL : LogX D B t0 L X9) (hw : X9 (B + 387) = some (outC D w)) (p1 : Int32) (p2 : Int32) : jCfH l D B t0 yL_arm cL_arm 5 (some .int) hh_L_arm rm_L_arm [.ref (B + 0), .int p1, .int p2, .ref (B + 387)] (memG 0 358 D B S X9) (zD B) (f_L_arm S L w p1 p2) rvI (LPM D B t0 X9) (zD B) := by
  refine jC_ofH hl9 [(0, .ref (B + 0)), (1, .int p1), (2, .int p2), (3, .ref (B + 387))] ⟨by decide +kernel, Nat.le_of_ble_eq_true rfl⟩ rfl (fun κ hl hD hB hT X htab => ?_)
  subst hl hD hB hT
  have X : jX κ RL cL_arm 5 (some .int) := X
  unfold f_L_arm
  refine j_aload_n X 3 rfl dL_arm_0 rfl ?_
  refine j_iconst X (0 : Int32) dL_arm_1 (by rfl) ?_
  refine j_aload_n X 0 rfl dL_arm_2 rfl ?_
  refine j_iload_n X 1 rfl dL_arm_3 rfl ?_
  refine j_iload_n X 2 rfl dL_arm_4 rfl ?_
  refine j_callVT X 0 0 (fun t => match t with | 0 => 13 | 1 => 0 | _ => 0) (c_X10_arm X.tr S X9 (zD (kB κ)) p1 p2) me_X10_arm ml_L_88 iv_X10_arm cf_X10 dL_arm_5 (memG_at kf_0) (rest := [.int 0, .ref (kB κ + 387)]) rfl rfl (by decide) (by decide) (Nat.le_of_ble_eq_true rfl) zD_mono (fun t S1 hne => ?_) (fun t S1 M1 q hM1 => ?_) (fun v S1 M1 hM1 => ?_)
  · match t, hne with
    | 0, _ => exact ⟨[], (⟨0, 10, 13, 13⟩ : ExceptionTableEntry), [], htab, (fun z hz => nomatch hz), by decide, by decide, cl_L_13, ca_E1, rfl⟩
    | 1, hne => exact absurd rfl hne
    | 2, hne => exact absurd rfl hne
    | t + 3, hne => exact absurd rfl hne
  · subst hM1
    have hw1 := hw
    have hL1 := hL
    have hf1 : ∀ q : Nat, q < kB κ + 387 → q ≠ kB κ + 66 → X9 q = X9 q := fun _ _ _ => rfl
    match t with
    | 0 =>
      refine j_eq (o1 := some (0, (1 : Int32), (S, L, w))) rfl (j_pc (pc1 := 13) rfl ?_)
      refine j_astore X [(4, .ref q), (0, .ref (kB κ + 0)), (1, .int p1), (2, .int p2), (3, .ref (kB κ + 387))] dL_arm_13 (by decide) rfl ?_
      refine j_iconst X (1 : Int32) dL_arm_15 (by rfl) ?_
      exact j_iret X dL_arm_16 ⟨_, rfl, hL1, hw1, hf1⟩ (fun _ h => h)
    | 1 => exact j_eq (o1 := none) rfl j_none
    | 2 => exact j_eq (o1 := none) rfl j_none
    | t + 3 => exact j_eq (o1 := none) rfl j_none
  · subst hM1
    have hw1 := hw
    have hL1 := hL
    have hf1 : ∀ q : Nat, q < kB κ + 387 → q ≠ kB κ + 66 → X9 q = X9 q := fun _ _ _ => rfl
    refine j_st (st1 := [.int v, .int 0, .ref (kB κ + 387)]) rfl ?_
    refine j_i2l X dL_arm_8 ?_
    refine j_last X v01 dL_arm_9 (Nat.le_add_right _ _) ((memG_out (Or.inr (by omega))).trans hw1) ?_
    rw [memG_upX (by omega)]
    refine j_goto X 17 dL_arm_10 (by decide) ?_
    refine j_iconst X (0 : Int32) dL_arm_17 (by rfl) ?_
    exact j_iret X dL_arm_18 ⟨_, rfl, hL1.out, jUp_eq, fun q q1 q2 => (jUp_ne (by omega)).trans (hf1 q q1 q2)⟩ (fun _ h => h)
def f_L_kept (S : jS) (L : jLg) (w : Nat → Int64) (p1 : Int32) (p2 : Int32) : Option (jR jLS) := jcat (f_X10_kept S p1 p2) (fun v S1 => some (0, (0 : Int32), (S, L, vp_updL w (0 : Int32).toNatClampNeg v.toInt64))) (fun t S1 => if t = 1 then some (0, (1 : Int32), (S, L, w)) else none)
abbrev rm_L_kept : Room := { frames := 9, cells := 2, slots := 12, locals := 154 }
abbrev hh_L_kept : List (Nat × Nat × Nat × Nat) := [(0, 10, 13, 13)]
set_option maxHeartbeats 4000000 in
set_option maxRecDepth 100000 in
theorem c_L_kept {l : Launch} {D : va_G} {B t0 : Nat} (hl9 : l.stackTraces = false) (S : jS) (X9 : jMem) (L : jLg) (w : Nat → Int64) (hL : LogX D B t0 L X9) (hw : X9 (B + 387) = some (outC D w)) (p1 : Int32) (p2 : Int32) : jCfH l D B t0 yL_kept cL_kept 5 (some .int) hh_L_kept rm_L_kept [.ref (B + 0), .int p1, .int p2, .ref (B + 387)] (memG 0 358 D B S X9) (zD B) (f_L_kept S L w p1 p2) rvI (LPM D B t0 X9) (zD B) := by
  refine jC_ofH hl9 [(0, .ref (B + 0)), (1, .int p1), (2, .int p2), (3, .ref (B + 387))] ⟨by decide +kernel, Nat.le_of_ble_eq_true rfl⟩ rfl (fun κ hl hD hB hT X htab => ?_)
  subst hl hD hB hT
  have X : jX κ RL cL_kept 5 (some .int) := X
  unfold f_L_kept
  refine j_aload_n X 3 rfl dL_kept_0 rfl ?_
  refine j_iconst X (0 : Int32) dL_kept_1 (by rfl) ?_
  refine j_aload_n X 0 rfl dL_kept_2 rfl ?_
  refine j_iload_n X 1 rfl dL_kept_3 rfl ?_
  refine j_iload_n X 2 rfl dL_kept_4 rfl ?_
  refine j_callVT X 0 0 (fun t => match t with | 0 => 13 | 1 => 0 | _ => 0) (c_X10_kept X.tr S X9 (zD (kB κ)) p1 p2) me_X10_kept ml_L_91 iv_X10_kept cf_X10 dL_kept_5 (memG_at kf_0) (rest := [.int 0, .ref (kB κ + 387)]) rfl rfl (by decide) (by decide) (Nat.le_of_ble_eq_true rfl) zD_mono (fun t S1 hne => ?_) (fun t S1 M1 q hM1 => ?_) (fun v S1 M1 hM1 => ?_)
  · match t, hne with
    | 0, _ => exact ⟨[], (⟨0, 10, 13, 13⟩ : ExceptionTableEntry), [], htab, (fun z hz => nomatch hz), by decide, by decide, cl_L_13, ca_E1, rfl⟩
    | 1, hne => exact absurd rfl hne
    | 2, hne => exact absurd rfl hne
    | t + 3, hne => exact absurd rfl hne
  · subst hM1
    have hw1 := hw
    have hL1 := hL
    have hf1 : ∀ q : Nat, q < kB κ + 387 → q ≠ kB κ + 66 → X9 q = X9 q := fun _ _ _ => rfl
    match t with
    | 0 =>
      refine j_eq (o1 := some (0, (1 : Int32), (S, L, w))) rfl (j_pc (pc1 := 13) rfl ?_)
      refine j_astore X [(4, .ref q), (0, .ref (kB κ + 0)), (1, .int p1), (2, .int p2), (3, .ref (kB κ + 387))] dL_kept_13 (by decide) rfl ?_
      refine j_iconst X (1 : Int32) dL_kept_15 (by rfl) ?_
      exact j_iret X dL_kept_16 ⟨_, rfl, hL1, hw1, hf1⟩ (fun _ h => h)
    | 1 => exact j_eq (o1 := none) rfl j_none
    | 2 => exact j_eq (o1 := none) rfl j_none
    | t + 3 => exact j_eq (o1 := none) rfl j_none
  · subst hM1
    have hw1 := hw
    have hL1 := hL
    have hf1 : ∀ q : Nat, q < kB κ + 387 → q ≠ kB κ + 66 → X9 q = X9 q := fun _ _ _ => rfl
    refine j_st (st1 := [.int v, .int 0, .ref (kB κ + 387)]) rfl ?_
    refine j_i2l X dL_kept_8 ?_
    refine j_last X v01 dL_kept_9 (Nat.le_add_right _ _) ((memG_out (Or.inr (by omega))).trans hw1) ?_
    rw [memG_upX (by omega)]
    refine j_goto X 17 dL_kept_10 (by decide) ?_
    refine j_iconst X (0 : Int32) dL_kept_17 (by rfl) ?_
    exact j_iret X dL_kept_18 ⟨_, rfl, hL1.out, jUp_eq, fun q q1 q2 => (jUp_ne (by omega)).trans (hf1 q q1 q2)⟩ (fun _ h => h)
def f_L_hold (S : jS) (L : jLg) (w : Nat → Int64) (p1 : Int32) (p2 : Int32) : Option (jR jLS) := jcat (f_X10_hold S L p1 p2) (fun v S1 => some (0, (0 : Int32), (S1.1, S1.2, vp_updL w (0 : Int32).toNatClampNeg v.toInt64))) (fun t S1 => if t = 1 then some (0, (1 : Int32), (S1.1, S1.2, w)) else if t = 2 then some (0, (2 : Int32), (S1.1, S1.2, w)) else none)
abbrev rm_L_hold : Room := { frames := 9, cells := 6, slots := 629, locals := 245 }
abbrev hh_L_hold : List (Nat × Nat × Nat × Nat) := [(0, 10, 13, 13), (0, 10, 17, 23)]
set_option maxHeartbeats 4000000 in
set_option maxRecDepth 100000 in
theorem c_L_hold {l : Launch} {D : va_G} {B t0 : Nat} (hl9 : l.stackTraces = false) (S : jS) (X9 : jMem) (L : jLg) (w : Nat → Int64) (hL : LogX D B t0 L X9) (hw : X9 (B + 387) = some (outC D w)) (p1 : Int32) (p2 : Int32) : jCfH l D B t0 yL_hold cL_hold 5 (some .int) hh_L_hold rm_L_hold [.ref (B + 0), .int p1, .int p2, .ref (B + 387)] (memG 0 358 D B S X9) (zD B) (f_L_hold S L w p1 p2) rvI (LPM D B t0 X9) (zD B) := by
  refine jC_ofH hl9 [(0, .ref (B + 0)), (1, .int p1), (2, .int p2), (3, .ref (B + 387))] ⟨by decide +kernel, Nat.le_of_ble_eq_true rfl⟩ rfl (fun κ hl hD hB hT X htab => ?_)
  subst hl hD hB hT
  have X : jX κ RL cL_hold 5 (some .int) := X
  unfold f_L_hold
  refine j_aload_n X 3 rfl dL_hold_0 rfl ?_
  refine j_iconst X (0 : Int32) dL_hold_1 (by rfl) ?_
  refine j_aload_n X 0 rfl dL_hold_2 rfl ?_
  refine j_iload_n X 1 rfl dL_hold_3 rfl ?_
  refine j_iload_n X 2 rfl dL_hold_4 rfl ?_
  refine j_callVT X 0 0 (fun t => match t with | 0 => 13 | 1 => 17 | _ => 0) (c_X10_hold X.tr S X9 L hL p1 p2) me_X10_hold ml_L_94 iv_X10_hold cf_X10 dL_hold_5 (memG_at kf_0) (rest := [.int 0, .ref (kB κ + 387)]) rfl rfl (by decide) (by decide) (Nat.le_of_ble_eq_true rfl) zD_mono (fun t S1 hne => ?_) (fun t S1 M1 q hM1 => ?_) (fun v S1 M1 hM1 => ?_)
  · match t, hne with
    | 0, _ => exact ⟨[], (⟨0, 10, 13, 13⟩ : ExceptionTableEntry), [(⟨0, 10, 17, 23⟩ : ExceptionTableEntry)], htab, (fun z hz => nomatch hz), by decide, by decide, cl_L_13, ca_E1, rfl⟩
    | 1, _ => exact ⟨[(⟨0, 10, 13, 13⟩ : ExceptionTableEntry)], (⟨0, 10, 17, 23⟩ : ExceptionTableEntry), [], htab, (fun z hz => by
        simp only [List.mem_cons, List.not_mem_nil, or_false] at hz
        subst hz
        exact Or.inr ⟨by decide, _, cl_L_13, X.k.1.2.1⟩), by decide, by decide, cl_L_23, ca_E2, rfl⟩
    | 2, hne => exact absurd rfl hne
    | t + 3, hne => exact absurd rfl hne
  · obtain ⟨X1, rfl, hK⟩ := hM1
    have hw1 : X1 (kB κ + 387) = some (outC (kD κ) w) := (hK.2 _ (by omega) (by omega)).trans hw
    have hL1 := hK.1
    have hf1 : ∀ q : Nat, q < kB κ + 387 → q ≠ kB κ + 66 → X1 q = X9 q := fun q q1 q2 => hK.2 q (by omega) q2
    match t with
    | 0 =>
      refine j_eq (o1 := some (0, (1 : Int32), (S1.1, S1.2, w))) rfl (j_pc (pc1 := 13) rfl ?_)
      refine j_astore X [(4, .ref q), (0, .ref (kB κ + 0)), (1, .int p1), (2, .int p2), (3, .ref (kB κ + 387))] dL_hold_13 (by decide) rfl ?_
      refine j_iconst X (1 : Int32) dL_hold_15 (by rfl) ?_
      exact j_iret X dL_hold_16 ⟨_, rfl, hL1, hw1, hf1⟩ (fun _ h => h)
    | 1 =>
      refine j_eq (o1 := some (0, (2 : Int32), (S1.1, S1.2, w))) rfl (j_pc (pc1 := 17) rfl ?_)
      refine j_astore X [(4, .ref q), (0, .ref (kB κ + 0)), (1, .int p1), (2, .int p2), (3, .ref (kB κ + 387))] dL_hold_17 (by decide) rfl ?_
      refine j_iconst X (2 : Int32) dL_hold_19 (by rfl) ?_
      exact j_iret X dL_hold_20 ⟨_, rfl, hL1, hw1, hf1⟩ (fun _ h => h)
    | 2 => exact j_eq (o1 := none) rfl j_none
    | t + 3 => exact j_eq (o1 := none) rfl j_none
  · obtain ⟨X1, rfl, hK⟩ := hM1
    have hw1 : X1 (kB κ + 387) = some (outC (kD κ) w) := (hK.2 _ (by omega) (by omega)).trans hw
    have hL1 := hK.1
    have hf1 : ∀ q : Nat, q < kB κ + 387 → q ≠ kB κ + 66 → X1 q = X9 q := fun q q1 q2 => hK.2 q (by omega) q2
    refine j_st (st1 := [.int v, .int 0, .ref (kB κ + 387)]) rfl ?_
    refine j_i2l X dL_hold_8 ?_
    refine j_last X v01 dL_hold_9 (Nat.le_add_right _ _) ((memG_out (Or.inr (by omega))).trans hw1) ?_
    rw [memG_upX (by omega)]
    refine j_goto X 21 dL_hold_10 (by decide) ?_
    refine j_iconst X (0 : Int32) dL_hold_21 (by rfl) ?_
    exact j_iret X dL_hold_22 ⟨_, rfl, hL1.out, jUp_eq, fun q q1 q2 => (jUp_ne (by omega)).trans (hf1 q q1 q2)⟩ (fun _ h => h)
def f_L_release (S : jS) (L : jLg) (w : Nat → Int64) (p1 : Int32) (p2 : Int32) : Option (jR jLS) := jcat (f_X10_release S L p1 p2) (fun v S1 => some (0, (0 : Int32), (S1.1, S1.2, vp_updL w (0 : Int32).toNatClampNeg v.toInt64))) (fun t S1 => if t = 1 then some (0, (1 : Int32), (S1.1, S1.2, w)) else if t = 2 then some (0, (2 : Int32), (S1.1, S1.2, w)) else none)
abbrev rm_L_release : Room := { frames := 9, cells := 6, slots := 629, locals := 244 }
abbrev hh_L_release : List (Nat × Nat × Nat × Nat) := [(0, 10, 13, 13), (0, 10, 17, 23)]
set_option maxHeartbeats 4000000 in
set_option maxRecDepth 100000 in
theorem c_L_release {l : Launch} {D : va_G} {B t0 : Nat} (hl9 : l.stackTraces = false) (S : jS) (X9 : jMem) (L : jLg) (w : Nat → Int64) (hL : LogX D B t0 L X9) (hw : X9 (B + 387) = some (outC D w)) (p1 : Int32) (p2 : Int32) : jCfH l D B t0 yL_release cL_release 5 (some .int) hh_L_release rm_L_release [.ref (B + 0), .int p1, .int p2, .ref (B + 387)] (memG 0 358 D B S X9) (zD B) (f_L_release S L w p1 p2) rvI (LPM D B t0 X9) (zD B) := by
  refine jC_ofH hl9 [(0, .ref (B + 0)), (1, .int p1), (2, .int p2), (3, .ref (B + 387))] ⟨by decide +kernel, Nat.le_of_ble_eq_true rfl⟩ rfl (fun κ hl hD hB hT X htab => ?_)
  subst hl hD hB hT
  have X : jX κ RL cL_release 5 (some .int) := X
  unfold f_L_release
  refine j_aload_n X 3 rfl dL_release_0 rfl ?_
  refine j_iconst X (0 : Int32) dL_release_1 (by rfl) ?_
  refine j_aload_n X 0 rfl dL_release_2 rfl ?_
  refine j_iload_n X 1 rfl dL_release_3 rfl ?_
  refine j_iload_n X 2 rfl dL_release_4 rfl ?_
  refine j_callVT X 0 0 (fun t => match t with | 0 => 13 | 1 => 17 | _ => 0) (c_X10_release X.tr S X9 L hL p1 p2) me_X10_release ml_L_97 iv_X10_release cf_X10 dL_release_5 (memG_at kf_0) (rest := [.int 0, .ref (kB κ + 387)]) rfl rfl (by decide) (by decide) (Nat.le_of_ble_eq_true rfl) zD_mono (fun t S1 hne => ?_) (fun t S1 M1 q hM1 => ?_) (fun v S1 M1 hM1 => ?_)
  · match t, hne with
    | 0, _ => exact ⟨[], (⟨0, 10, 13, 13⟩ : ExceptionTableEntry), [(⟨0, 10, 17, 23⟩ : ExceptionTableEntry)], htab, (fun z hz => nomatch hz), by decide, by decide, cl_L_13, ca_E1, rfl⟩
    | 1, _ => exact ⟨[(⟨0, 10, 13, 13⟩ : ExceptionTableEntry)], (⟨0, 10, 17, 23⟩ : ExceptionTableEntry), [], htab, (fun z hz => by
        simp only [List.mem_cons, List.not_mem_nil, or_false] at hz
        subst hz
        exact Or.inr ⟨by decide, _, cl_L_13, X.k.1.2.1⟩), by decide, by decide, cl_L_23, ca_E2, rfl⟩
    | 2, hne => exact absurd rfl hne
    | t + 3, hne => exact absurd rfl hne
  · obtain ⟨X1, rfl, hK⟩ := hM1
    have hw1 : X1 (kB κ + 387) = some (outC (kD κ) w) := (hK.2 _ (by omega) (by omega)).trans hw
    have hL1 := hK.1
    have hf1 : ∀ q : Nat, q < kB κ + 387 → q ≠ kB κ + 66 → X1 q = X9 q := fun q q1 q2 => hK.2 q (by omega) q2
    match t with
    | 0 =>
      refine j_eq (o1 := some (0, (1 : Int32), (S1.1, S1.2, w))) rfl (j_pc (pc1 := 13) rfl ?_)
      refine j_astore X [(4, .ref q), (0, .ref (kB κ + 0)), (1, .int p1), (2, .int p2), (3, .ref (kB κ + 387))] dL_release_13 (by decide) rfl ?_
      refine j_iconst X (1 : Int32) dL_release_15 (by rfl) ?_
      exact j_iret X dL_release_16 ⟨_, rfl, hL1, hw1, hf1⟩ (fun _ h => h)
    | 1 =>
      refine j_eq (o1 := some (0, (2 : Int32), (S1.1, S1.2, w))) rfl (j_pc (pc1 := 17) rfl ?_)
      refine j_astore X [(4, .ref q), (0, .ref (kB κ + 0)), (1, .int p1), (2, .int p2), (3, .ref (kB κ + 387))] dL_release_17 (by decide) rfl ?_
      refine j_iconst X (2 : Int32) dL_release_19 (by rfl) ?_
      exact j_iret X dL_release_20 ⟨_, rfl, hL1, hw1, hf1⟩ (fun _ h => h)
    | 2 => exact j_eq (o1 := none) rfl j_none
    | t + 3 => exact j_eq (o1 := none) rfl j_none
  · obtain ⟨X1, rfl, hK⟩ := hM1
    have hw1 : X1 (kB κ + 387) = some (outC (kD κ) w) := (hK.2 _ (by omega) (by omega)).trans hw
    have hL1 := hK.1
    have hf1 : ∀ q : Nat, q < kB κ + 387 → q ≠ kB κ + 66 → X1 q = X9 q := fun q q1 q2 => hK.2 q (by omega) q2
    refine j_st (st1 := [.int v, .int 0, .ref (kB κ + 387)]) rfl ?_
    refine j_i2l X dL_release_8 ?_
    refine j_last X v01 dL_release_9 (Nat.le_add_right _ _) ((memG_out (Or.inr (by omega))).trans hw1) ?_
    rw [memG_upX (by omega)]
    refine j_goto X 21 dL_release_10 (by decide) ?_
    refine j_iconst X (0 : Int32) dL_release_21 (by rfl) ?_
    exact j_iret X dL_release_22 ⟨_, rfl, hL1.out, jUp_eq, fun q q1 q2 => (jUp_ne (by omega)).trans (hf1 q q1 q2)⟩ (fun _ h => h)
def f_L_holdTrial (S : jS) (L : jLg) (w : Nat → Int64) (p1 : Int32) : Option (jR jLS) := jcat (f_X10_holdTrial S L p1) (fun v S1 => some (0, (0 : Int32), (S1.1, S1.2, vp_updL w (0 : Int32).toNatClampNeg v.toInt64))) (fun t S1 => if t = 1 then some (0, (1 : Int32), (S1.1, S1.2, w)) else if t = 2 then some (0, (2 : Int32), (S1.1, S1.2, w)) else none)
abbrev rm_L_holdTrial : Room := { frames := 9, cells := 5, slots := 623, locals := 245 }
abbrev hh_L_holdTrial : List (Nat × Nat × Nat × Nat) := [(0, 9, 12, 13), (0, 9, 15, 23)]
set_option maxHeartbeats 4000000 in
set_option maxRecDepth 100000 in
theorem c_L_holdTrial {l : Launch} {D : va_G} {B t0 : Nat} (hl9 : l.stackTraces = false) (S : jS) (X9 : jMem) (L : jLg) (w : Nat → Int64) (hL : LogX D B t0 L X9) (hw : X9 (B + 387) = some (outC D w)) (p1 : Int32) : jCfH l D B t0 yL_holdTrial cL_holdTrial 4 (some .int) hh_L_holdTrial rm_L_holdTrial [.ref (B + 0), .int p1, .ref (B + 387)] (memG 0 358 D B S X9) (zD B) (f_L_holdTrial S L w p1) rvI (LPM D B t0 X9) (zD B) := by
  refine jC_ofH hl9 [(0, .ref (B + 0)), (1, .int p1), (2, .ref (B + 387))] ⟨by decide +kernel, Nat.le_of_ble_eq_true rfl⟩ rfl (fun κ hl hD hB hT X htab => ?_)
  subst hl hD hB hT
  have X : jX κ RL cL_holdTrial 4 (some .int) := X
  unfold f_L_holdTrial
  refine j_aload_n X 2 rfl dL_holdTrial_0 rfl ?_
  refine j_iconst X (0 : Int32) dL_holdTrial_1 (by rfl) ?_
  refine j_aload_n X 0 rfl dL_holdTrial_2 rfl ?_
  refine j_iload_n X 1 rfl dL_holdTrial_3 rfl ?_
  refine j_callVT X 0 0 (fun t => match t with | 0 => 12 | 1 => 15 | _ => 0) (c_X10_holdTrial X.tr S X9 L hL p1) me_X10_holdTrial ml_L_100 iv_X10_holdTrial cf_X10 dL_holdTrial_4 (memG_at kf_0) (rest := [.int 0, .ref (kB κ + 387)]) rfl rfl (by decide) (by decide) (Nat.le_of_ble_eq_true rfl) zD_mono (fun t S1 hne => ?_) (fun t S1 M1 q hM1 => ?_) (fun v S1 M1 hM1 => ?_)
  · match t, hne with
    | 0, _ => exact ⟨[], (⟨0, 9, 12, 13⟩ : ExceptionTableEntry), [(⟨0, 9, 15, 23⟩ : ExceptionTableEntry)], htab, (fun z hz => nomatch hz), by decide, by decide, cl_L_13, ca_E1, rfl⟩
    | 1, _ => exact ⟨[(⟨0, 9, 12, 13⟩ : ExceptionTableEntry)], (⟨0, 9, 15, 23⟩ : ExceptionTableEntry), [], htab, (fun z hz => by
        simp only [List.mem_cons, List.not_mem_nil, or_false] at hz
        subst hz
        exact Or.inr ⟨by decide, _, cl_L_13, X.k.1.2.1⟩), by decide, by decide, cl_L_23, ca_E2, rfl⟩
    | 2, hne => exact absurd rfl hne
    | t + 3, hne => exact absurd rfl hne
  · obtain ⟨X1, rfl, hK⟩ := hM1
    have hw1 : X1 (kB κ + 387) = some (outC (kD κ) w) := (hK.2 _ (by omega) (by omega)).trans hw
    have hL1 := hK.1
    have hf1 : ∀ q : Nat, q < kB κ + 387 → q ≠ kB κ + 66 → X1 q = X9 q := fun q q1 q2 => hK.2 q (by omega) q2
    match t with
    | 0 =>
      refine j_eq (o1 := some (0, (1 : Int32), (S1.1, S1.2, w))) rfl (j_pc (pc1 := 12) rfl ?_)
      refine j_astore_n X [(3, .ref q), (0, .ref (kB κ + 0)), (1, .int p1), (2, .ref (kB κ + 387))] dL_holdTrial_12 rfl (by decide) rfl ?_
      refine j_iconst X (1 : Int32) dL_holdTrial_13 (by rfl) ?_
      exact j_iret X dL_holdTrial_14 ⟨_, rfl, hL1, hw1, hf1⟩ (fun _ h => h)
    | 1 =>
      refine j_eq (o1 := some (0, (2 : Int32), (S1.1, S1.2, w))) rfl (j_pc (pc1 := 15) rfl ?_)
      refine j_astore_n X [(3, .ref q), (0, .ref (kB κ + 0)), (1, .int p1), (2, .ref (kB κ + 387))] dL_holdTrial_15 rfl (by decide) rfl ?_
      refine j_iconst X (2 : Int32) dL_holdTrial_16 (by rfl) ?_
      exact j_iret X dL_holdTrial_17 ⟨_, rfl, hL1, hw1, hf1⟩ (fun _ h => h)
    | 2 => exact j_eq (o1 := none) rfl j_none
    | t + 3 => exact j_eq (o1 := none) rfl j_none
  · obtain ⟨X1, rfl, hK⟩ := hM1
    have hw1 : X1 (kB κ + 387) = some (outC (kD κ) w) := (hK.2 _ (by omega) (by omega)).trans hw
    have hL1 := hK.1
    have hf1 : ∀ q : Nat, q < kB κ + 387 → q ≠ kB κ + 66 → X1 q = X9 q := fun q q1 q2 => hK.2 q (by omega) q2
    refine j_st (st1 := [.int v, .int 0, .ref (kB κ + 387)]) rfl ?_
    refine j_i2l X dL_holdTrial_7 ?_
    refine j_last X v01 dL_holdTrial_8 (Nat.le_add_right _ _) ((memG_out (Or.inr (by omega))).trans hw1) ?_
    rw [memG_upX (by omega)]
    refine j_goto X 18 dL_holdTrial_9 (by decide) ?_
    refine j_iconst X (0 : Int32) dL_holdTrial_18 (by rfl) ?_
    exact j_iret X dL_holdTrial_19 ⟨_, rfl, hL1.out, jUp_eq, fun q q1 q2 => (jUp_ne (by omega)).trans (hf1 q q1 q2)⟩ (fun _ h => h)
def f_L_releaseTrial (S : jS) (L : jLg) (w : Nat → Int64) (p1 : Int32) : Option (jR jLS) := jcat (f_X10_releaseTrial S L p1) (fun v S1 => some (0, (0 : Int32), (S1.1, S1.2, vp_updL w (0 : Int32).toNatClampNeg v.toInt64))) (fun t S1 => if t = 1 then some (0, (1 : Int32), (S1.1, S1.2, w)) else if t = 2 then some (0, (2 : Int32), (S1.1, S1.2, w)) else none)
abbrev rm_L_releaseTrial : Room := { frames := 9, cells := 5, slots := 623, locals := 245 }
abbrev hh_L_releaseTrial : List (Nat × Nat × Nat × Nat) := [(0, 9, 12, 13), (0, 9, 15, 23)]
set_option maxHeartbeats 4000000 in
set_option maxRecDepth 100000 in
theorem c_L_releaseTrial {l : Launch} {D : va_G} {B t0 : Nat} (hl9 : l.stackTraces = false) (S : jS) (X9 : jMem) (L : jLg) (w : Nat → Int64) (hL : LogX D B t0 L X9) (hw : X9 (B + 387) = some (outC D w)) (p1 : Int32) : jCfH l D B t0 yL_releaseTrial cL_releaseTrial 4 (some .int) hh_L_releaseTrial rm_L_releaseTrial [.ref (B + 0), .int p1, .ref (B + 387)] (memG 0 358 D B S X9) (zD B) (f_L_releaseTrial S L w p1) rvI (LPM D B t0 X9) (zD B) := by
  refine jC_ofH hl9 [(0, .ref (B + 0)), (1, .int p1), (2, .ref (B + 387))] ⟨by decide +kernel, Nat.le_of_ble_eq_true rfl⟩ rfl (fun κ hl hD hB hT X htab => ?_)
  subst hl hD hB hT
  have X : jX κ RL cL_releaseTrial 4 (some .int) := X
  unfold f_L_releaseTrial
  refine j_aload_n X 2 rfl dL_releaseTrial_0 rfl ?_
  refine j_iconst X (0 : Int32) dL_releaseTrial_1 (by rfl) ?_
  refine j_aload_n X 0 rfl dL_releaseTrial_2 rfl ?_
  refine j_iload_n X 1 rfl dL_releaseTrial_3 rfl ?_
  refine j_callVT X 0 0 (fun t => match t with | 0 => 12 | 1 => 15 | _ => 0) (c_X10_releaseTrial X.tr S X9 L hL p1) me_X10_releaseTrial ml_L_103 iv_X10_releaseTrial cf_X10 dL_releaseTrial_4 (memG_at kf_0) (rest := [.int 0, .ref (kB κ + 387)]) rfl rfl (by decide) (by decide) (Nat.le_of_ble_eq_true rfl) zD_mono (fun t S1 hne => ?_) (fun t S1 M1 q hM1 => ?_) (fun v S1 M1 hM1 => ?_)
  · match t, hne with
    | 0, _ => exact ⟨[], (⟨0, 9, 12, 13⟩ : ExceptionTableEntry), [(⟨0, 9, 15, 23⟩ : ExceptionTableEntry)], htab, (fun z hz => nomatch hz), by decide, by decide, cl_L_13, ca_E1, rfl⟩
    | 1, _ => exact ⟨[(⟨0, 9, 12, 13⟩ : ExceptionTableEntry)], (⟨0, 9, 15, 23⟩ : ExceptionTableEntry), [], htab, (fun z hz => by
        simp only [List.mem_cons, List.not_mem_nil, or_false] at hz
        subst hz
        exact Or.inr ⟨by decide, _, cl_L_13, X.k.1.2.1⟩), by decide, by decide, cl_L_23, ca_E2, rfl⟩
    | 2, hne => exact absurd rfl hne
    | t + 3, hne => exact absurd rfl hne
  · obtain ⟨X1, rfl, hK⟩ := hM1
    have hw1 : X1 (kB κ + 387) = some (outC (kD κ) w) := (hK.2 _ (by omega) (by omega)).trans hw
    have hL1 := hK.1
    have hf1 : ∀ q : Nat, q < kB κ + 387 → q ≠ kB κ + 66 → X1 q = X9 q := fun q q1 q2 => hK.2 q (by omega) q2
    match t with
    | 0 =>
      refine j_eq (o1 := some (0, (1 : Int32), (S1.1, S1.2, w))) rfl (j_pc (pc1 := 12) rfl ?_)
      refine j_astore_n X [(3, .ref q), (0, .ref (kB κ + 0)), (1, .int p1), (2, .ref (kB κ + 387))] dL_releaseTrial_12 rfl (by decide) rfl ?_
      refine j_iconst X (1 : Int32) dL_releaseTrial_13 (by rfl) ?_
      exact j_iret X dL_releaseTrial_14 ⟨_, rfl, hL1, hw1, hf1⟩ (fun _ h => h)
    | 1 =>
      refine j_eq (o1 := some (0, (2 : Int32), (S1.1, S1.2, w))) rfl (j_pc (pc1 := 15) rfl ?_)
      refine j_astore_n X [(3, .ref q), (0, .ref (kB κ + 0)), (1, .int p1), (2, .ref (kB κ + 387))] dL_releaseTrial_15 rfl (by decide) rfl ?_
      refine j_iconst X (2 : Int32) dL_releaseTrial_16 (by rfl) ?_
      exact j_iret X dL_releaseTrial_17 ⟨_, rfl, hL1, hw1, hf1⟩ (fun _ h => h)
    | 2 => exact j_eq (o1 := none) rfl j_none
    | t + 3 => exact j_eq (o1 := none) rfl j_none
  · obtain ⟨X1, rfl, hK⟩ := hM1
    have hw1 : X1 (kB κ + 387) = some (outC (kD κ) w) := (hK.2 _ (by omega) (by omega)).trans hw
    have hL1 := hK.1
    have hf1 : ∀ q : Nat, q < kB κ + 387 → q ≠ kB κ + 66 → X1 q = X9 q := fun q q1 q2 => hK.2 q (by omega) q2
    refine j_st (st1 := [.int v, .int 0, .ref (kB κ + 387)]) rfl ?_
    refine j_i2l X dL_releaseTrial_7 ?_
    refine j_last X v01 dL_releaseTrial_8 (Nat.le_add_right _ _) ((memG_out (Or.inr (by omega))).trans hw1) ?_
    rw [memG_upX (by omega)]
    refine j_goto X 18 dL_releaseTrial_9 (by decide) ?_
    refine j_iconst X (0 : Int32) dL_releaseTrial_18 (by rfl) ?_
    exact j_iret X dL_releaseTrial_19 ⟨_, rfl, hL1.out, jUp_eq, fun q q1 q2 => (jUp_ne (by omega)).trans (hf1 q q1 q2)⟩ (fun _ h => h)
def f_L_isHeld (S : jS) (L : jLg) (w : Nat → Int64) (p1 : Int32) (p2 : Int32) : Option (jR jLS) := jcat (f_X10_isHeld S p1 p2) (fun v S1 => (if v = (0 : Int32) then some (0, (0 : Int32), (S, L, vp_updL w (0 : Int32).toNatClampNeg (0 : Int64))) else some (0, (0 : Int32), (S, L, vp_updL w (0 : Int32).toNatClampNeg (1 : Int64))))) (fun t S1 => if t = 1 then some (0, (1 : Int32), (S, L, w)) else none)
abbrev rm_L_isHeld : Room := { frames := 9, cells := 2, slots := 12, locals := 154 }
abbrev hh_L_isHeld : List (Nat × Nat × Nat × Nat) := [(0, 17, 20, 13)]
set_option maxHeartbeats 4000000 in
set_option maxRecDepth 100000 in
theorem c_L_isHeld {l : Launch} {D : va_G} {B t0 : Nat} (hl9 : l.stackTraces = false) (S : jS) (X9 : jMem) (L : jLg) (w : Nat → Int64) (hL : LogX D B t0 L X9) (hw : X9 (B + 387) = some (outC D w)) (p1 : Int32) (p2 : Int32) : jCfH l D B t0 yL_isHeld cL_isHeld 5 (some .int) hh_L_isHeld rm_L_isHeld [.ref (B + 0), .int p1, .int p2, .ref (B + 387)] (memG 0 358 D B S X9) (zD B) (f_L_isHeld S L w p1 p2) rvI (LPM D B t0 X9) (zD B) := by
  refine jC_ofH hl9 [(0, .ref (B + 0)), (1, .int p1), (2, .int p2), (3, .ref (B + 387))] ⟨by decide +kernel, Nat.le_of_ble_eq_true rfl⟩ rfl (fun κ hl hD hB hT X htab => ?_)
  subst hl hD hB hT
  have X : jX κ RL cL_isHeld 5 (some .int) := X
  unfold f_L_isHeld
  refine j_aload_n X 3 rfl dL_isHeld_0 rfl ?_
  refine j_iconst X (0 : Int32) dL_isHeld_1 (by rfl) ?_
  refine j_aload_n X 0 rfl dL_isHeld_2 rfl ?_
  refine j_iload_n X 1 rfl dL_isHeld_3 rfl ?_
  refine j_iload_n X 2 rfl dL_isHeld_4 rfl ?_
  refine j_callVT X 0 0 (fun t => match t with | 0 => 20 | 1 => 0 | _ => 0) (c_X10_isHeld X.tr S X9 (zD (kB κ)) p1 p2) me_X10_isHeld ml_L_106 iv_X10_isHeld cf_X10 dL_isHeld_5 (memG_at kf_0) (rest := [.int 0, .ref (kB κ + 387)]) rfl rfl (by decide) (by decide) (Nat.le_of_ble_eq_true rfl) zD_mono (fun t S1 hne => ?_) (fun t S1 M1 q hM1 => ?_) (fun v S1 M1 hM1 => ?_)
  · match t, hne with
    | 0, _ => exact ⟨[], (⟨0, 17, 20, 13⟩ : ExceptionTableEntry), [], htab, (fun z hz => nomatch hz), by decide, by decide, cl_L_13, ca_E1, rfl⟩
    | 1, hne => exact absurd rfl hne
    | 2, hne => exact absurd rfl hne
    | t + 3, hne => exact absurd rfl hne
  · subst hM1
    have hw1 := hw
    have hL1 := hL
    have hf1 : ∀ q : Nat, q < kB κ + 387 → q ≠ kB κ + 66 → X9 q = X9 q := fun _ _ _ => rfl
    match t with
    | 0 =>
      refine j_eq (o1 := some (0, (1 : Int32), (S, L, w))) rfl (j_pc (pc1 := 20) rfl ?_)
      refine j_astore X [(4, .ref q), (0, .ref (kB κ + 0)), (1, .int p1), (2, .int p2), (3, .ref (kB κ + 387))] dL_isHeld_20 (by decide) rfl ?_
      refine j_iconst X (1 : Int32) dL_isHeld_22 (by rfl) ?_
      exact j_iret X dL_isHeld_23 ⟨_, rfl, hL1, hw1, hf1⟩ (fun _ h => h)
    | 1 => exact j_eq (o1 := none) rfl j_none
    | 2 => exact j_eq (o1 := none) rfl j_none
    | t + 3 => exact j_eq (o1 := none) rfl j_none
  · subst hM1
    have hw1 := hw
    have hL1 := hL
    have hf1 : ∀ q : Nat, q < kB κ + 387 → q ≠ kB κ + 66 → X9 q = X9 q := fun _ _ _ => rfl
    refine j_st (st1 := [.int v, .int 0, .ref (kB κ + 387)]) rfl ?_
    refine j_if_eq X 15 dL_isHeld_8 (by decide) ?_ ?_
    · refine j_lconst X (0 : Int64) dL_isHeld_15 (by rfl) ?_
      refine j_last X v01 dL_isHeld_16 (Nat.le_add_right _ _) ((memG_out (Or.inr (by omega))).trans hw1) ?_
      rw [memG_upX (by omega)]
      refine j_goto X 24 dL_isHeld_17 (by decide) ?_
      refine j_iconst X (0 : Int32) dL_isHeld_24 (by rfl) ?_
      exact j_iret X dL_isHeld_25 ⟨_, rfl, hL1.out, jUp_eq, fun q q1 q2 => (jUp_ne (by omega)).trans (hf1 q q1 q2)⟩ (fun _ h => h)
    · refine j_lconst X (1 : Int64) dL_isHeld_11 (by rfl) ?_
      refine j_goto X 16 dL_isHeld_12 (by decide) ?_
      refine j_last X v01 dL_isHeld_16 (Nat.le_add_right _ _) ((memG_out (Or.inr (by omega))).trans hw1) ?_
      rw [memG_upX (by omega)]
      refine j_goto X 24 dL_isHeld_17 (by decide) ?_
      refine j_iconst X (0 : Int32) dL_isHeld_24 (by rfl) ?_
      exact j_iret X dL_isHeld_25 ⟨_, rfl, hL1.out, jUp_eq, fun q q1 q2 => (jUp_ne (by omega)).trans (hf1 q q1 q2)⟩ (fun _ h => h)
def f_L_shownLast (S : jS) (L : jLg) (w : Nat → Int64) (p1 : Int32) (p2 : Int32) : Option (jR jLS) := jcat (f_X10_shownLast S p1 p2) (fun v S1 => some (0, (0 : Int32), (S, L, vp_updL w (0 : Int32).toNatClampNeg v.toInt64))) (fun t S1 => if t = 1 then some (0, (1 : Int32), (S, L, w)) else none)
abbrev rm_L_shownLast : Room := { frames := 9, cells := 2, slots := 12, locals := 154 }
abbrev hh_L_shownLast : List (Nat × Nat × Nat × Nat) := [(0, 10, 13, 13)]
set_option maxHeartbeats 4000000 in
set_option maxRecDepth 100000 in
theorem c_L_shownLast {l : Launch} {D : va_G} {B t0 : Nat} (hl9 : l.stackTraces = false) (S : jS) (X9 : jMem) (L : jLg) (w : Nat → Int64) (hL : LogX D B t0 L X9) (hw : X9 (B + 387) = some (outC D w)) (p1 : Int32) (p2 : Int32) : jCfH l D B t0 yL_shownLast cL_shownLast 5 (some .int) hh_L_shownLast rm_L_shownLast [.ref (B + 0), .int p1, .int p2, .ref (B + 387)] (memG 0 358 D B S X9) (zD B) (f_L_shownLast S L w p1 p2) rvI (LPM D B t0 X9) (zD B) := by
  refine jC_ofH hl9 [(0, .ref (B + 0)), (1, .int p1), (2, .int p2), (3, .ref (B + 387))] ⟨by decide +kernel, Nat.le_of_ble_eq_true rfl⟩ rfl (fun κ hl hD hB hT X htab => ?_)
  subst hl hD hB hT
  have X : jX κ RL cL_shownLast 5 (some .int) := X
  unfold f_L_shownLast
  refine j_aload_n X 3 rfl dL_shownLast_0 rfl ?_
  refine j_iconst X (0 : Int32) dL_shownLast_1 (by rfl) ?_
  refine j_aload_n X 0 rfl dL_shownLast_2 rfl ?_
  refine j_iload_n X 1 rfl dL_shownLast_3 rfl ?_
  refine j_iload_n X 2 rfl dL_shownLast_4 rfl ?_
  refine j_callVT X 0 0 (fun t => match t with | 0 => 13 | 1 => 0 | _ => 0) (c_X10_shownLast X.tr S X9 (zD (kB κ)) p1 p2) me_X10_shownLast ml_L_109 iv_X10_shownLast cf_X10 dL_shownLast_5 (memG_at kf_0) (rest := [.int 0, .ref (kB κ + 387)]) rfl rfl (by decide) (by decide) (Nat.le_of_ble_eq_true rfl) zD_mono (fun t S1 hne => ?_) (fun t S1 M1 q hM1 => ?_) (fun v S1 M1 hM1 => ?_)
  · match t, hne with
    | 0, _ => exact ⟨[], (⟨0, 10, 13, 13⟩ : ExceptionTableEntry), [], htab, (fun z hz => nomatch hz), by decide, by decide, cl_L_13, ca_E1, rfl⟩
    | 1, hne => exact absurd rfl hne
    | 2, hne => exact absurd rfl hne
    | t + 3, hne => exact absurd rfl hne
  · subst hM1
    have hw1 := hw
    have hL1 := hL
    have hf1 : ∀ q : Nat, q < kB κ + 387 → q ≠ kB κ + 66 → X9 q = X9 q := fun _ _ _ => rfl
    match t with
    | 0 =>
      refine j_eq (o1 := some (0, (1 : Int32), (S, L, w))) rfl (j_pc (pc1 := 13) rfl ?_)
      refine j_astore X [(4, .ref q), (0, .ref (kB κ + 0)), (1, .int p1), (2, .int p2), (3, .ref (kB κ + 387))] dL_shownLast_13 (by decide) rfl ?_
      refine j_iconst X (1 : Int32) dL_shownLast_15 (by rfl) ?_
      exact j_iret X dL_shownLast_16 ⟨_, rfl, hL1, hw1, hf1⟩ (fun _ h => h)
    | 1 => exact j_eq (o1 := none) rfl j_none
    | 2 => exact j_eq (o1 := none) rfl j_none
    | t + 3 => exact j_eq (o1 := none) rfl j_none
  · subst hM1
    have hw1 := hw
    have hL1 := hL
    have hf1 : ∀ q : Nat, q < kB κ + 387 → q ≠ kB κ + 66 → X9 q = X9 q := fun _ _ _ => rfl
    refine j_st (st1 := [.int v, .int 0, .ref (kB κ + 387)]) rfl ?_
    refine j_i2l X dL_shownLast_8 ?_
    refine j_last X v01 dL_shownLast_9 (Nat.le_add_right _ _) ((memG_out (Or.inr (by omega))).trans hw1) ?_
    rw [memG_upX (by omega)]
    refine j_goto X 17 dL_shownLast_10 (by decide) ?_
    refine j_iconst X (0 : Int32) dL_shownLast_17 (by rfl) ?_
    exact j_iret X dL_shownLast_18 ⟨_, rfl, hL1.out, jUp_eq, fun q q1 q2 => (jUp_ne (by omega)).trans (hf1 q q1 q2)⟩ (fun _ h => h)
end GNW
