section GNW
def f_L_setAttribute (S : jS) (L : jLg) (p1 : Int32) (p2 : Int32) (p3 : Int32) : Option (jR jSL) := jcat (f_X10_setAttribute S p1 p2 p3) (fun v S1 => some (0, v, (S1, L))) (fun t S1 => if t = 1 then some (0, (-99999 : Int32), (S1, L)) else none)
abbrev rm_L_setAttribute : Room := { frames := 9, cells := 3, slots := 18, locals := 161 }
set_option maxHeartbeats 4000000 in
set_option maxRecDepth 100000 in
theorem c_L_setAttribute {l : Launch} {D : va_G} {B t0 : Nat} (hl9 : l.stackTraces = false) (S : jS) (X9 : jMem) (L : jLg) (hL : LogX D B t0 L X9) (p1 : Int32) (p2 : Int32) (p3 : Int32) : jCfH l D B t0 yL_setAttribute cL_setAttribute 5 (some .int) [(0, 7, 8, 14)] rm_L_setAttribute [.ref (B + 0), .int p1, .int p2, .int p3] (memG 0 358 D B S X9) (zD D) (f_L_setAttribute S L p1 p2 p3) rvI (LPN D B t0 X9) (zD D) := by
  refine jC_ofH hl9 [(0, .ref (B + 0)), (1, .int p1), (2, .int p2), (3, .int p3)] ⟨by decide +kernel, Nat.le_of_ble_eq_true rfl⟩ rfl (fun κ hl hD hB hT X htab => ?_)
  subst hl hD hB hT
  have X : jX κ RL cL_setAttribute 5 (some .int) := X
  unfold f_L_setAttribute
  refine j_aload_n X 0 rfl dL_setAttribute_0 rfl ?_
  refine j_iload_n X 1 rfl dL_setAttribute_1 rfl ?_
  refine j_iload_n X 2 rfl dL_setAttribute_2 rfl ?_
  refine j_iload_n X 3 rfl dL_setAttribute_3 rfl ?_
  refine j_callVT X 0 0 (fun t => match t with | 0 => 8 | 1 => 0 | _ => 0) (c_X10_setAttribute X.tr S X9 (zD (kD κ)) p1 p2 p3) me_X10_setAttribute ml_L_8 iv_X10_setAttribute cf_X10 dL_setAttribute_4 (memG_at kf_0) (rest := []) rfl rfl (by decide) (by decide) (Nat.le_of_ble_eq_true rfl) zD_mono (fun t S1 hne => ?_) (fun t S1 M1 q hM1 => ?_) (fun v S1 M1 hM1 => ?_)
  · match t, hne with
    | 0, _ => exact ⟨[], (⟨0, 7, 8, 14⟩ : ExceptionTableEntry), [], htab, (fun z hz => nomatch hz), by decide, by decide, cl_L_14, ca_E1, rfl⟩
    | 1, hne => exact absurd rfl hne
    | 2, hne => exact absurd rfl hne
    | t + 3, hne => exact absurd rfl hne
  · subst hM1
    have hK : LogK (kD κ) (kB κ) (kT κ) X9 L X9 := LogK.rf hL
    match t with
    | 0 =>
      refine j_eq (o1 := some (0, (-99999 : Int32), (S1, L))) rfl (j_pc (pc1 := 8) rfl ?_)
      refine j_astore X [(4, .ref q), (0, .ref (kB κ + 0)), (1, .int p1), (2, .int p2), (3, .int p3)] dL_setAttribute_8 (by decide) rfl ?_
      refine j_ldc X kc_L_16 dL_setAttribute_10 ?_
      exact j_iret X dL_setAttribute_12 ⟨_, rfl, hK⟩ (fun _ h => h)
    | 1 => exact j_eq (o1 := none) rfl j_none
    | 2 => exact j_eq (o1 := none) rfl j_none
    | t + 3 => exact j_eq (o1 := none) rfl j_none
  · subst hM1
    have hK : LogK (kD κ) (kB κ) (kT κ) X9 L X9 := LogK.rf hL
    refine j_st (st1 := [.int v]) rfl ?_
    exact j_iret X dL_setAttribute_7 ⟨_, rfl, hK⟩ (fun _ h => h)
def f_L_setTag (S : jS) (L : jLg) (p1 : Int32) (p2 : Int32) (p3 : Int32) : Option (jR jSL) := jcat (f_X10_setTag S p1 p2 p3) (fun v S1 => (if v = (0 : Int32) then some (0, (0 : Int32), (S1, L)) else some (0, (1 : Int32), (S1, L)))) (fun t S1 => if t = 1 then some (0, (-99999 : Int32), (S1, L)) else none)
abbrev rm_L_setTag : Room := { frames := 9, cells := 2, slots := 12, locals := 161 }
set_option maxHeartbeats 4000000 in
set_option maxRecDepth 100000 in
theorem c_L_setTag {l : Launch} {D : va_G} {B t0 : Nat} (hl9 : l.stackTraces = false) (S : jS) (X9 : jMem) (L : jLg) (hL : LogX D B t0 L X9) (p1 : Int32) (p2 : Int32) (p3 : Int32) : jCfH l D B t0 yL_setTag cL_setTag 5 (some .int) [(0, 15, 16, 14)] rm_L_setTag [.ref (B + 0), .int p1, .int p2, .int p3] (memG 0 358 D B S X9) (zD D) (f_L_setTag S L p1 p2 p3) rvI (LPN D B t0 X9) (zD D) := by
  refine jC_ofH hl9 [(0, .ref (B + 0)), (1, .int p1), (2, .int p2), (3, .int p3)] ⟨by decide +kernel, Nat.le_of_ble_eq_true rfl⟩ rfl (fun κ hl hD hB hT X htab => ?_)
  subst hl hD hB hT
  have X : jX κ RL cL_setTag 5 (some .int) := X
  unfold f_L_setTag
  refine j_aload_n X 0 rfl dL_setTag_0 rfl ?_
  refine j_iload_n X 1 rfl dL_setTag_1 rfl ?_
  refine j_iload_n X 2 rfl dL_setTag_2 rfl ?_
  refine j_iload_n X 3 rfl dL_setTag_3 rfl ?_
  refine j_callVT X 0 0 (fun t => match t with | 0 => 16 | 1 => 0 | _ => 0) (c_X10_setTag X.tr S X9 (zD (kD κ)) p1 p2 p3) me_X10_setTag ml_L_17 iv_X10_setTag cf_X10 dL_setTag_4 (memG_at kf_0) (rest := []) rfl rfl (by decide) (by decide) (Nat.le_of_ble_eq_true rfl) zD_mono (fun t S1 hne => ?_) (fun t S1 M1 q hM1 => ?_) (fun v S1 M1 hM1 => ?_)
  · match t, hne with
    | 0, _ => exact ⟨[], (⟨0, 15, 16, 14⟩ : ExceptionTableEntry), [], htab, (fun z hz => nomatch hz), by decide, by decide, cl_L_14, ca_E1, rfl⟩
    | 1, hne => exact absurd rfl hne
    | 2, hne => exact absurd rfl hne
    | t + 3, hne => exact absurd rfl hne
  · subst hM1
    have hK : LogK (kD κ) (kB κ) (kT κ) X9 L X9 := LogK.rf hL
    match t with
    | 0 =>
      refine j_eq (o1 := some (0, (-99999 : Int32), (S1, L))) rfl (j_pc (pc1 := 16) rfl ?_)
      refine j_astore X [(4, .ref q), (0, .ref (kB κ + 0)), (1, .int p1), (2, .int p2), (3, .int p3)] dL_setTag_16 (by decide) rfl ?_
      refine j_ldc X kc_L_16 dL_setTag_18 ?_
      exact j_iret X dL_setTag_20 ⟨_, rfl, hK⟩ (fun _ h => h)
    | 1 => exact j_eq (o1 := none) rfl j_none
    | 2 => exact j_eq (o1 := none) rfl j_none
    | t + 3 => exact j_eq (o1 := none) rfl j_none
  · subst hM1
    have hK : LogK (kD κ) (kB κ) (kT κ) X9 L X9 := LogK.rf hL
    refine j_st (st1 := [.int v]) rfl ?_
    refine j_if_eq X 14 dL_setTag_7 (by decide) ?_ ?_
    · refine j_iconst X (0 : Int32) dL_setTag_14 (by rfl) ?_
      exact j_iret X dL_setTag_15 ⟨_, rfl, hK⟩ (fun _ h => h)
    · refine j_iconst X (1 : Int32) dL_setTag_10 (by rfl) ?_
      refine j_goto X 15 dL_setTag_11 (by decide) ?_
      exact j_iret X dL_setTag_15 ⟨_, rfl, hK⟩ (fun _ h => h)
def f_L_type (S : jS) (L : jLg) (p1 : Int32) (p2 : Int32) : Option (jR jSL) := jcat (f_X10_type S p1 p2) (fun v S1 => some (0, v, (S1, L))) (fun t S1 => if t = 1 then some (0, (-99999 : Int32), (S1, L)) else if t = 2 then some (0, (-99999 : Int32), (S1, L)) else none)
abbrev rm_L_type : Room := { frames := 9, cells := 3, slots := 18, locals := 155 }
set_option maxHeartbeats 4000000 in
set_option maxRecDepth 100000 in
theorem c_L_type {l : Launch} {D : va_G} {B t0 : Nat} (hl9 : l.stackTraces = false) (S : jS) (X9 : jMem) (L : jLg) (hL : LogX D B t0 L X9) (p1 : Int32) (p2 : Int32) : jCfH l D B t0 yL_type cL_type 4 (some .int) [(0, 6, 7, 14), (0, 6, 11, 25)] rm_L_type [.ref (B + 0), .int p1, .int p2] (memG 0 358 D B S X9) (zD D) (f_L_type S L p1 p2) rvI (LPN D B t0 X9) (zD D) := by
  refine jC_ofH hl9 [(0, .ref (B + 0)), (1, .int p1), (2, .int p2)] ⟨by decide +kernel, Nat.le_of_ble_eq_true rfl⟩ rfl (fun κ hl hD hB hT X htab => ?_)
  subst hl hD hB hT
  have X : jX κ RL cL_type 4 (some .int) := X
  unfold f_L_type
  refine j_aload_n X 0 rfl dL_type_0 rfl ?_
  refine j_iload_n X 1 rfl dL_type_1 rfl ?_
  refine j_iload_n X 2 rfl dL_type_2 rfl ?_
  refine j_callVT X 0 0 (fun t => match t with | 0 => 7 | 1 => 11 | _ => 0) (c_X10_type X.tr S X9 (zD (kD κ)) p1 p2) me_X10_type ml_L_21 iv_X10_type cf_X10 dL_type_3 (memG_at kf_0) (rest := []) rfl rfl (by decide) (by decide) (Nat.le_of_ble_eq_true rfl) zD_mono (fun t S1 hne => ?_) (fun t S1 M1 q hM1 => ?_) (fun v S1 M1 hM1 => ?_)
  · match t, hne with
    | 0, _ => exact ⟨[], (⟨0, 6, 7, 14⟩ : ExceptionTableEntry), [(⟨0, 6, 11, 25⟩ : ExceptionTableEntry)], htab, (fun z hz => nomatch hz), by decide, by decide, cl_L_14, ca_E1, rfl⟩
    | 1, _ => exact ⟨[(⟨0, 6, 7, 14⟩ : ExceptionTableEntry)], (⟨0, 6, 11, 25⟩ : ExceptionTableEntry), [], htab, (fun z hz => by
        simp only [List.mem_cons, List.not_mem_nil, or_false] at hz
        subst hz
        exact Or.inr ⟨by decide, _, cl_L_14, X.k.1.2.1⟩), by decide, by decide, cl_L_25, ca_E2, rfl⟩
    | 2, hne => exact absurd rfl hne
    | t + 3, hne => exact absurd rfl hne
  · subst hM1
    have hK : LogK (kD κ) (kB κ) (kT κ) X9 L X9 := LogK.rf hL
    match t with
    | 0 =>
      refine j_eq (o1 := some (0, (-99999 : Int32), (S1, L))) rfl (j_pc (pc1 := 7) rfl ?_)
      refine j_astore_n X [(3, .ref q), (0, .ref (kB κ + 0)), (1, .int p1), (2, .int p2)] dL_type_7 rfl (by decide) rfl ?_
      refine j_ldc X kc_L_16 dL_type_8 ?_
      exact j_iret X dL_type_10 ⟨_, rfl, hK⟩ (fun _ h => h)
    | 1 =>
      refine j_eq (o1 := some (0, (-99999 : Int32), (S1, L))) rfl (j_pc (pc1 := 11) rfl ?_)
      refine j_astore_n X [(3, .ref q), (0, .ref (kB κ + 0)), (1, .int p1), (2, .int p2)] dL_type_11 rfl (by decide) rfl ?_
      refine j_ldc X kc_L_16 dL_type_12 ?_
      exact j_iret X dL_type_14 ⟨_, rfl, hK⟩ (fun _ h => h)
    | 2 => exact j_eq (o1 := none) rfl j_none
    | t + 3 => exact j_eq (o1 := none) rfl j_none
  · subst hM1
    have hK : LogK (kD κ) (kB κ) (kT κ) X9 L X9 := LogK.rf hL
    refine j_st (st1 := [.int v]) rfl ?_
    exact j_iret X dL_type_6 ⟨_, rfl, hK⟩ (fun _ h => h)
def f_L_erase (S : jS) (L : jLg) (p1 : Int32) (p2 : Int32) : Option (jR jSL) := jcat (f_X10_erase S p1 p2) (fun v S1 => some (0, v, (S1, L))) (fun t S1 => if t = 1 then some (0, (-99999 : Int32), (S1, L)) else none)
abbrev rm_L_erase : Room := { frames := 9, cells := 2, slots := 12, locals := 155 }
set_option maxHeartbeats 4000000 in
set_option maxRecDepth 100000 in
theorem c_L_erase {l : Launch} {D : va_G} {B t0 : Nat} (hl9 : l.stackTraces = false) (S : jS) (X9 : jMem) (L : jLg) (hL : LogX D B t0 L X9) (p1 : Int32) (p2 : Int32) : jCfH l D B t0 yL_erase cL_erase 4 (some .int) [(0, 6, 7, 14)] rm_L_erase [.ref (B + 0), .int p1, .int p2] (memG 0 358 D B S X9) (zD D) (f_L_erase S L p1 p2) rvI (LPN D B t0 X9) (zD D) := by
  refine jC_ofH hl9 [(0, .ref (B + 0)), (1, .int p1), (2, .int p2)] ⟨by decide +kernel, Nat.le_of_ble_eq_true rfl⟩ rfl (fun κ hl hD hB hT X htab => ?_)
  subst hl hD hB hT
  have X : jX κ RL cL_erase 4 (some .int) := X
  unfold f_L_erase
  refine j_aload_n X 0 rfl dL_erase_0 rfl ?_
  refine j_iload_n X 1 rfl dL_erase_1 rfl ?_
  refine j_iload_n X 2 rfl dL_erase_2 rfl ?_
  refine j_callVT X 0 0 (fun t => match t with | 0 => 7 | 1 => 0 | _ => 0) (c_X10_erase X.tr S X9 (zD (kD κ)) p1 p2) me_X10_erase ml_L_27 iv_X10_erase cf_X10 dL_erase_3 (memG_at kf_0) (rest := []) rfl rfl (by decide) (by decide) (Nat.le_of_ble_eq_true rfl) zD_mono (fun t S1 hne => ?_) (fun t S1 M1 q hM1 => ?_) (fun v S1 M1 hM1 => ?_)
  · match t, hne with
    | 0, _ => exact ⟨[], (⟨0, 6, 7, 14⟩ : ExceptionTableEntry), [], htab, (fun z hz => nomatch hz), by decide, by decide, cl_L_14, ca_E1, rfl⟩
    | 1, hne => exact absurd rfl hne
    | 2, hne => exact absurd rfl hne
    | t + 3, hne => exact absurd rfl hne
  · subst hM1
    have hK : LogK (kD κ) (kB κ) (kT κ) X9 L X9 := LogK.rf hL
    match t with
    | 0 =>
      refine j_eq (o1 := some (0, (-99999 : Int32), (S1, L))) rfl (j_pc (pc1 := 7) rfl ?_)
      refine j_astore_n X [(3, .ref q), (0, .ref (kB κ + 0)), (1, .int p1), (2, .int p2)] dL_erase_7 rfl (by decide) rfl ?_
      refine j_ldc X kc_L_16 dL_erase_8 ?_
      exact j_iret X dL_erase_10 ⟨_, rfl, hK⟩ (fun _ h => h)
    | 1 => exact j_eq (o1 := none) rfl j_none
    | 2 => exact j_eq (o1 := none) rfl j_none
    | t + 3 => exact j_eq (o1 := none) rfl j_none
  · subst hM1
    have hK : LogK (kD κ) (kB κ) (kT κ) X9 L X9 := LogK.rf hL
    refine j_st (st1 := [.int v]) rfl ?_
    exact j_iret X dL_erase_6 ⟨_, rfl, hK⟩ (fun _ h => h)
def f_L_set (S : jS) (L : jLg) (p1 : Int32) : Option (jR jSL) := jcat (f_X10_set S p1) (fun v S1 => some (0, v, (S1, L))) (fun t S1 => if t = 1 then some (0, (-99999 : Int32), (S1, L)) else if t = 2 then some (0, (-99999 : Int32), (S1, L)) else none)
abbrev rm_L_set : Room := { frames := 9, cells := 2, slots := 12, locals := 160 }
set_option maxHeartbeats 4000000 in
set_option maxRecDepth 100000 in
theorem c_L_set {l : Launch} {D : va_G} {B t0 : Nat} (hl9 : l.stackTraces = false) (S : jS) (X9 : jMem) (L : jLg) (hL : LogX D B t0 L X9) (p1 : Int32) : jCfH l D B t0 yL_set cL_set 3 (some .int) [(0, 5, 6, 14), (0, 5, 10, 25)] rm_L_set [.ref (B + 0), .int p1] (memG 0 358 D B S X9) (zD D) (f_L_set S L p1) rvI (LPN D B t0 X9) (zD D) := by
  refine jC_ofH hl9 [(0, .ref (B + 0)), (1, .int p1)] ⟨by decide +kernel, Nat.le_of_ble_eq_true rfl⟩ rfl (fun κ hl hD hB hT X htab => ?_)
  subst hl hD hB hT
  have X : jX κ RL cL_set 3 (some .int) := X
  unfold f_L_set
  refine j_aload_n X 0 rfl dL_set_0 rfl ?_
  refine j_iload_n X 1 rfl dL_set_1 rfl ?_
  refine j_callVT X 0 0 (fun t => match t with | 0 => 6 | 1 => 10 | _ => 0) (c_X10_set X.tr S X9 (zD (kD κ)) p1) me_X10_set ml_L_30 iv_X10_set cf_X10 dL_set_2 (memG_at kf_0) (rest := []) rfl rfl (by decide) (by decide) (Nat.le_of_ble_eq_true rfl) zD_mono (fun t S1 hne => ?_) (fun t S1 M1 q hM1 => ?_) (fun v S1 M1 hM1 => ?_)
  · match t, hne with
    | 0, _ => exact ⟨[], (⟨0, 5, 6, 14⟩ : ExceptionTableEntry), [(⟨0, 5, 10, 25⟩ : ExceptionTableEntry)], htab, (fun z hz => nomatch hz), by decide, by decide, cl_L_14, ca_E1, rfl⟩
    | 1, _ => exact ⟨[(⟨0, 5, 6, 14⟩ : ExceptionTableEntry)], (⟨0, 5, 10, 25⟩ : ExceptionTableEntry), [], htab, (fun z hz => by
        simp only [List.mem_cons, List.not_mem_nil, or_false] at hz
        subst hz
        exact Or.inr ⟨by decide, _, cl_L_14, X.k.1.2.1⟩), by decide, by decide, cl_L_25, ca_E2, rfl⟩
    | 2, hne => exact absurd rfl hne
    | t + 3, hne => exact absurd rfl hne
  · subst hM1
    have hK : LogK (kD κ) (kB κ) (kT κ) X9 L X9 := LogK.rf hL
    match t with
    | 0 =>
      refine j_eq (o1 := some (0, (-99999 : Int32), (S1, L))) rfl (j_pc (pc1 := 6) rfl ?_)
      refine j_astore_n X [(2, .ref q), (0, .ref (kB κ + 0)), (1, .int p1)] dL_set_6 rfl (by decide) rfl ?_
      refine j_ldc X kc_L_16 dL_set_7 ?_
      exact j_iret X dL_set_9 ⟨_, rfl, hK⟩ (fun _ h => h)
    | 1 =>
      refine j_eq (o1 := some (0, (-99999 : Int32), (S1, L))) rfl (j_pc (pc1 := 10) rfl ?_)
      refine j_astore_n X [(2, .ref q), (0, .ref (kB κ + 0)), (1, .int p1)] dL_set_10 rfl (by decide) rfl ?_
      refine j_ldc X kc_L_16 dL_set_11 ?_
      exact j_iret X dL_set_13 ⟨_, rfl, hK⟩ (fun _ h => h)
    | 2 => exact j_eq (o1 := none) rfl j_none
    | t + 3 => exact j_eq (o1 := none) rfl j_none
  · subst hM1
    have hK : LogK (kD κ) (kB κ) (kT κ) X9 L X9 := LogK.rf hL
    refine j_st (st1 := [.int v]) rfl ?_
    exact j_iret X dL_set_5 ⟨_, rfl, hK⟩ (fun _ h => h)
def f_L_wouldMove (S : jS) (L : jLg) (p1 : Int32) : Option (jR jSL) := jcat (f_X10_wouldMove S p1) (fun v S1 => some (0, v, (S1, L))) (fun t S1 => if t = 1 then some (0, (-99999 : Int32), (S1, L)) else if t = 2 then some (0, (-99999 : Int32), (S1, L)) else none)
abbrev rm_L_wouldMove : Room := { frames := 9, cells := 2, slots := 12, locals := 161 }
set_option maxHeartbeats 4000000 in
set_option maxRecDepth 100000 in
theorem c_L_wouldMove {l : Launch} {D : va_G} {B t0 : Nat} (hl9 : l.stackTraces = false) (S : jS) (X9 : jMem) (L : jLg) (hL : LogX D B t0 L X9) (p1 : Int32) : jCfH l D B t0 yL_wouldMove cL_wouldMove 3 (some .int) [(0, 5, 6, 14), (0, 5, 10, 25)] rm_L_wouldMove [.ref (B + 0), .int p1] (memG 0 358 D B S X9) (zD D) (f_L_wouldMove S L p1) rvI (LPN D B t0 X9) (zD D) := by
  refine jC_ofH hl9 [(0, .ref (B + 0)), (1, .int p1)] ⟨by decide +kernel, Nat.le_of_ble_eq_true rfl⟩ rfl (fun κ hl hD hB hT X htab => ?_)
  subst hl hD hB hT
  have X : jX κ RL cL_wouldMove 3 (some .int) := X
  unfold f_L_wouldMove
  refine j_aload_n X 0 rfl dL_wouldMove_0 rfl ?_
  refine j_iload_n X 1 rfl dL_wouldMove_1 rfl ?_
  refine j_callVT X 0 0 (fun t => match t with | 0 => 6 | 1 => 10 | _ => 0) (c_X10_wouldMove X.tr S X9 (zD (kD κ)) p1) me_X10_wouldMove ml_L_34 iv_X10_wouldMove cf_X10 dL_wouldMove_2 (memG_at kf_0) (rest := []) rfl rfl (by decide) (by decide) (Nat.le_of_ble_eq_true rfl) zD_mono (fun t S1 hne => ?_) (fun t S1 M1 q hM1 => ?_) (fun v S1 M1 hM1 => ?_)
  · match t, hne with
    | 0, _ => exact ⟨[], (⟨0, 5, 6, 14⟩ : ExceptionTableEntry), [(⟨0, 5, 10, 25⟩ : ExceptionTableEntry)], htab, (fun z hz => nomatch hz), by decide, by decide, cl_L_14, ca_E1, rfl⟩
    | 1, _ => exact ⟨[(⟨0, 5, 6, 14⟩ : ExceptionTableEntry)], (⟨0, 5, 10, 25⟩ : ExceptionTableEntry), [], htab, (fun z hz => by
        simp only [List.mem_cons, List.not_mem_nil, or_false] at hz
        subst hz
        exact Or.inr ⟨by decide, _, cl_L_14, X.k.1.2.1⟩), by decide, by decide, cl_L_25, ca_E2, rfl⟩
    | 2, hne => exact absurd rfl hne
    | t + 3, hne => exact absurd rfl hne
  · subst hM1
    have hK : LogK (kD κ) (kB κ) (kT κ) X9 L X9 := LogK.rf hL
    match t with
    | 0 =>
      refine j_eq (o1 := some (0, (-99999 : Int32), (S1, L))) rfl (j_pc (pc1 := 6) rfl ?_)
      refine j_astore_n X [(2, .ref q), (0, .ref (kB κ + 0)), (1, .int p1)] dL_wouldMove_6 rfl (by decide) rfl ?_
      refine j_ldc X kc_L_16 dL_wouldMove_7 ?_
      exact j_iret X dL_wouldMove_9 ⟨_, rfl, hK⟩ (fun _ h => h)
    | 1 =>
      refine j_eq (o1 := some (0, (-99999 : Int32), (S1, L))) rfl (j_pc (pc1 := 10) rfl ?_)
      refine j_astore_n X [(2, .ref q), (0, .ref (kB κ + 0)), (1, .int p1)] dL_wouldMove_10 rfl (by decide) rfl ?_
      refine j_ldc X kc_L_16 dL_wouldMove_11 ?_
      exact j_iret X dL_wouldMove_13 ⟨_, rfl, hK⟩ (fun _ h => h)
    | 2 => exact j_eq (o1 := none) rfl j_none
    | t + 3 => exact j_eq (o1 := none) rfl j_none
  · subst hM1
    have hK : LogK (kD κ) (kB κ) (kT κ) X9 L X9 := LogK.rf hL
    refine j_st (st1 := [.int v]) rfl ?_
    exact j_iret X dL_wouldMove_5 ⟨_, rfl, hK⟩ (fun _ h => h)
def f_L_addRule (S : jS) (L : jLg) (p1 : Int32) (p2 : Int32) (p3 : Int32) (p4 : Int32) : Option (jR jSL) := jcat (f_X10_addRule S p1 p2 p3 p4) (fun v S1 => some (0, v, (S1, L))) (fun t S1 => if t = 1 then some (0, (-99999 : Int32), (S1, L)) else if t = 3 then some (0, (-99999 : Int32), (S1, L)) else if t = 2 then some (0, (-99999 : Int32), (S1, L)) else none)
abbrev rm_L_addRule : Room := { frames := 9, cells := 4, slots := 24, locals := 157 }
set_option maxHeartbeats 4000000 in
set_option maxRecDepth 100000 in
theorem c_L_addRule {l : Launch} {D : va_G} {B t0 : Nat} (hl9 : l.stackTraces = false) (S : jS) (X9 : jMem) (L : jLg) (hL : LogX D B t0 L X9) (p1 : Int32) (p2 : Int32) (p3 : Int32) (p4 : Int32) : jCfH l D B t0 yL_addRule cL_addRule 6 (some .int) [(0, 9, 10, 14), (0, 9, 15, 41), (0, 9, 20, 25)] rm_L_addRule [.ref (B + 0), .int p1, .int p2, .int p3, .int p4] (memG 0 358 D B S X9) (zD D) (f_L_addRule S L p1 p2 p3 p4) rvI (LPN D B t0 X9) (zD D) := by
  refine jC_ofH hl9 [(0, .ref (B + 0)), (1, .int p1), (2, .int p2), (3, .int p3), (4, .int p4)] ⟨by decide +kernel, Nat.le_of_ble_eq_true rfl⟩ rfl (fun κ hl hD hB hT X htab => ?_)
  subst hl hD hB hT
  have X : jX κ RL cL_addRule 6 (some .int) := X
  unfold f_L_addRule
  refine j_aload_n X 0 rfl dL_addRule_0 rfl ?_
  refine j_iload_n X 1 rfl dL_addRule_1 rfl ?_
  refine j_iload_n X 2 rfl dL_addRule_2 rfl ?_
  refine j_iload_n X 3 rfl dL_addRule_3 rfl ?_
  refine j_iload X 4 rfl dL_addRule_4 ?_
  refine j_callVT X 0 0 (fun t => match t with | 0 => 10 | 1 => 20 | _ => 15) (c_X10_addRule X.tr S X9 (zD (kD κ)) p1 p2 p3 p4) me_X10_addRule ml_L_37 iv_X10_addRule cf_X10 dL_addRule_6 (memG_at kf_0) (rest := []) rfl rfl (by decide) (by decide) (Nat.le_of_ble_eq_true rfl) zD_mono (fun t S1 hne => ?_) (fun t S1 M1 q hM1 => ?_) (fun v S1 M1 hM1 => ?_)
  · match t, hne with
    | 0, _ => exact ⟨[], (⟨0, 9, 10, 14⟩ : ExceptionTableEntry), [(⟨0, 9, 15, 41⟩ : ExceptionTableEntry), (⟨0, 9, 20, 25⟩ : ExceptionTableEntry)], htab, (fun z hz => nomatch hz), by decide, by decide, cl_L_14, ca_E1, rfl⟩
    | 1, _ => exact ⟨[(⟨0, 9, 10, 14⟩ : ExceptionTableEntry), (⟨0, 9, 15, 41⟩ : ExceptionTableEntry)], (⟨0, 9, 20, 25⟩ : ExceptionTableEntry), [], htab, (fun z hz => by
        simp only [List.mem_cons, List.not_mem_nil, or_false] at hz
        rcases hz with rfl | rfl
        · exact Or.inr ⟨by decide, _, cl_L_14, X.k.1.2.1⟩
        · exact Or.inr ⟨by decide, _, cl_L_41, X.k.1.2.2.2.1⟩), by decide, by decide, cl_L_25, ca_E2, rfl⟩
    | 2, _ => exact ⟨[(⟨0, 9, 10, 14⟩ : ExceptionTableEntry)], (⟨0, 9, 15, 41⟩ : ExceptionTableEntry), [(⟨0, 9, 20, 25⟩ : ExceptionTableEntry)], htab, (fun z hz => by
        simp only [List.mem_cons, List.not_mem_nil, or_false] at hz
        subst hz
        exact Or.inr ⟨by decide, _, cl_L_14, X.k.1.2.2.1⟩), by decide, by decide, cl_L_41, ca_E3, rfl⟩
    | t + 3, hne => exact absurd rfl hne
  · subst hM1
    have hK : LogK (kD κ) (kB κ) (kT κ) X9 L X9 := LogK.rf hL
    match t with
    | 0 =>
      refine j_eq (o1 := some (0, (-99999 : Int32), (S1, L))) rfl (j_pc (pc1 := 10) rfl ?_)
      refine j_astore X [(5, .ref q), (0, .ref (kB κ + 0)), (1, .int p1), (2, .int p2), (3, .int p3), (4, .int p4)] dL_addRule_10 (by decide) rfl ?_
      refine j_ldc X kc_L_16 dL_addRule_12 ?_
      exact j_iret X dL_addRule_14 ⟨_, rfl, hK⟩ (fun _ h => h)
    | 1 =>
      refine j_eq (o1 := some (0, (-99999 : Int32), (S1, L))) rfl (j_pc (pc1 := 20) rfl ?_)
      refine j_astore X [(5, .ref q), (0, .ref (kB κ + 0)), (1, .int p1), (2, .int p2), (3, .int p3), (4, .int p4)] dL_addRule_20 (by decide) rfl ?_
      refine j_ldc X kc_L_16 dL_addRule_22 ?_
      exact j_iret X dL_addRule_24 ⟨_, rfl, hK⟩ (fun _ h => h)
    | 2 =>
      refine j_eq (o1 := some (0, (-99999 : Int32), (S1, L))) rfl (j_pc (pc1 := 15) rfl ?_)
      refine j_astore X [(5, .ref q), (0, .ref (kB κ + 0)), (1, .int p1), (2, .int p2), (3, .int p3), (4, .int p4)] dL_addRule_15 (by decide) rfl ?_
      refine j_ldc X kc_L_16 dL_addRule_17 ?_
      exact j_iret X dL_addRule_19 ⟨_, rfl, hK⟩ (fun _ h => h)
    | t + 3 => exact j_eq (o1 := none) rfl j_none
  · subst hM1
    have hK : LogK (kD κ) (kB κ) (kT κ) X9 L X9 := LogK.rf hL
    refine j_st (st1 := [.int v]) rfl ?_
    exact j_iret X dL_addRule_9 ⟨_, rfl, hK⟩ (fun _ h => h)
def f_L_removeRule (S : jS) (L : jLg) (p1 : Int32) (p2 : Int32) : Option (jR jSL) := jcat (f_X10_removeRule S p1 p2) (fun v S1 => some (0, v, (S1, L))) (fun t S1 => if t = 1 then some (0, (-99999 : Int32), (S1, L)) else if t = 3 then some (0, (-99999 : Int32), (S1, L)) else none)
abbrev rm_L_removeRule : Room := { frames := 9, cells := 2, slots := 12, locals := 156 }
set_option maxHeartbeats 4000000 in
set_option maxRecDepth 100000 in
theorem c_L_removeRule {l : Launch} {D : va_G} {B t0 : Nat} (hl9 : l.stackTraces = false) (S : jS) (X9 : jMem) (L : jLg) (hL : LogX D B t0 L X9) (p1 : Int32) (p2 : Int32) : jCfH l D B t0 yL_removeRule cL_removeRule 4 (some .int) [(0, 6, 7, 14), (0, 6, 11, 41)] rm_L_removeRule [.ref (B + 0), .int p1, .int p2] (memG 0 358 D B S X9) (zD D) (f_L_removeRule S L p1 p2) rvI (LPN D B t0 X9) (zD D) := by
  refine jC_ofH hl9 [(0, .ref (B + 0)), (1, .int p1), (2, .int p2)] ⟨by decide +kernel, Nat.le_of_ble_eq_true rfl⟩ rfl (fun κ hl hD hB hT X htab => ?_)
  subst hl hD hB hT
  have X : jX κ RL cL_removeRule 4 (some .int) := X
  unfold f_L_removeRule
  refine j_aload_n X 0 rfl dL_removeRule_0 rfl ?_
  refine j_iload_n X 1 rfl dL_removeRule_1 rfl ?_
  refine j_iload_n X 2 rfl dL_removeRule_2 rfl ?_
  refine j_callVT X 0 0 (fun t => match t with | 0 => 7 | 1 => 0 | _ => 11) (c_X10_removeRule X.tr S X9 (zD (kD κ)) p1 p2) me_X10_removeRule ml_L_43 iv_X10_removeRule cf_X10 dL_removeRule_3 (memG_at kf_0) (rest := []) rfl rfl (by decide) (by decide) (Nat.le_of_ble_eq_true rfl) zD_mono (fun t S1 hne => ?_) (fun t S1 M1 q hM1 => ?_) (fun v S1 M1 hM1 => ?_)
  · match t, hne with
    | 0, _ => exact ⟨[], (⟨0, 6, 7, 14⟩ : ExceptionTableEntry), [(⟨0, 6, 11, 41⟩ : ExceptionTableEntry)], htab, (fun z hz => nomatch hz), by decide, by decide, cl_L_14, ca_E1, rfl⟩
    | 1, hne => exact absurd rfl hne
    | 2, _ => exact ⟨[(⟨0, 6, 7, 14⟩ : ExceptionTableEntry)], (⟨0, 6, 11, 41⟩ : ExceptionTableEntry), [], htab, (fun z hz => by
        simp only [List.mem_cons, List.not_mem_nil, or_false] at hz
        subst hz
        exact Or.inr ⟨by decide, _, cl_L_14, X.k.1.2.2.1⟩), by decide, by decide, cl_L_41, ca_E3, rfl⟩
    | t + 3, hne => exact absurd rfl hne
  · subst hM1
    have hK : LogK (kD κ) (kB κ) (kT κ) X9 L X9 := LogK.rf hL
    match t with
    | 0 =>
      refine j_eq (o1 := some (0, (-99999 : Int32), (S1, L))) rfl (j_pc (pc1 := 7) rfl ?_)
      refine j_astore_n X [(3, .ref q), (0, .ref (kB κ + 0)), (1, .int p1), (2, .int p2)] dL_removeRule_7 rfl (by decide) rfl ?_
      refine j_ldc X kc_L_16 dL_removeRule_8 ?_
      exact j_iret X dL_removeRule_10 ⟨_, rfl, hK⟩ (fun _ h => h)
    | 1 => exact j_eq (o1 := none) rfl j_none
    | 2 =>
      refine j_eq (o1 := some (0, (-99999 : Int32), (S1, L))) rfl (j_pc (pc1 := 11) rfl ?_)
      refine j_astore_n X [(3, .ref q), (0, .ref (kB κ + 0)), (1, .int p1), (2, .int p2)] dL_removeRule_11 rfl (by decide) rfl ?_
      refine j_ldc X kc_L_16 dL_removeRule_12 ?_
      exact j_iret X dL_removeRule_14 ⟨_, rfl, hK⟩ (fun _ h => h)
    | t + 3 => exact j_eq (o1 := none) rfl j_none
  · subst hM1
    have hK : LogK (kD κ) (kB κ) (kT κ) X9 L X9 := LogK.rf hL
    refine j_st (st1 := [.int v]) rfl ?_
    exact j_iret X dL_removeRule_6 ⟨_, rfl, hK⟩ (fun _ h => h)
def f_L_setNeed (S : jS) (L : jLg) (p1 : Int32) (p2 : Int32) (p3 : Int32) : Option (jR jSL) := jcat (f_X10_setNeed S p1 p2 p3) (fun v S1 => (if v = (0 : Int32) then some (0, (0 : Int32), (S1, L)) else some (0, (1 : Int32), (S1, L)))) (fun t S1 => if t = 1 then some (0, (-99999 : Int32), (S1, L)) else if t = 2 then some (0, (-99999 : Int32), (S1, L)) else none)
abbrev rm_L_setNeed : Room := { frames := 9, cells := 3, slots := 18, locals := 157 }
set_option maxHeartbeats 4000000 in
set_option maxRecDepth 100000 in
theorem c_L_setNeed {l : Launch} {D : va_G} {B t0 : Nat} (hl9 : l.stackTraces = false) (S : jS) (X9 : jMem) (L : jLg) (hL : LogX D B t0 L X9) (p1 : Int32) (p2 : Int32) (p3 : Int32) : jCfH l D B t0 yL_setNeed cL_setNeed 5 (some .int) [(0, 15, 16, 14), (0, 15, 21, 25)] rm_L_setNeed [.ref (B + 0), .int p1, .int p2, .int p3] (memG 0 358 D B S X9) (zD D) (f_L_setNeed S L p1 p2 p3) rvI (LPN D B t0 X9) (zD D) := by
  refine jC_ofH hl9 [(0, .ref (B + 0)), (1, .int p1), (2, .int p2), (3, .int p3)] ⟨by decide +kernel, Nat.le_of_ble_eq_true rfl⟩ rfl (fun κ hl hD hB hT X htab => ?_)
  subst hl hD hB hT
  have X : jX κ RL cL_setNeed 5 (some .int) := X
  unfold f_L_setNeed
  refine j_aload_n X 0 rfl dL_setNeed_0 rfl ?_
  refine j_iload_n X 1 rfl dL_setNeed_1 rfl ?_
  refine j_iload_n X 2 rfl dL_setNeed_2 rfl ?_
  refine j_iload_n X 3 rfl dL_setNeed_3 rfl ?_
  refine j_callVT X 0 0 (fun t => match t with | 0 => 16 | 1 => 21 | _ => 0) (c_X10_setNeed X.tr S X9 (zD (kD κ)) p1 p2 p3) me_X10_setNeed ml_L_46 iv_X10_setNeed cf_X10 dL_setNeed_4 (memG_at kf_0) (rest := []) rfl rfl (by decide) (by decide) (Nat.le_of_ble_eq_true rfl) zD_mono (fun t S1 hne => ?_) (fun t S1 M1 q hM1 => ?_) (fun v S1 M1 hM1 => ?_)
  · match t, hne with
    | 0, _ => exact ⟨[], (⟨0, 15, 16, 14⟩ : ExceptionTableEntry), [(⟨0, 15, 21, 25⟩ : ExceptionTableEntry)], htab, (fun z hz => nomatch hz), by decide, by decide, cl_L_14, ca_E1, rfl⟩
    | 1, _ => exact ⟨[(⟨0, 15, 16, 14⟩ : ExceptionTableEntry)], (⟨0, 15, 21, 25⟩ : ExceptionTableEntry), [], htab, (fun z hz => by
        simp only [List.mem_cons, List.not_mem_nil, or_false] at hz
        subst hz
        exact Or.inr ⟨by decide, _, cl_L_14, X.k.1.2.1⟩), by decide, by decide, cl_L_25, ca_E2, rfl⟩
    | 2, hne => exact absurd rfl hne
    | t + 3, hne => exact absurd rfl hne
  · subst hM1
    have hK : LogK (kD κ) (kB κ) (kT κ) X9 L X9 := LogK.rf hL
    match t with
    | 0 =>
      refine j_eq (o1 := some (0, (-99999 : Int32), (S1, L))) rfl (j_pc (pc1 := 16) rfl ?_)
      refine j_astore X [(4, .ref q), (0, .ref (kB κ + 0)), (1, .int p1), (2, .int p2), (3, .int p3)] dL_setNeed_16 (by decide) rfl ?_
      refine j_ldc X kc_L_16 dL_setNeed_18 ?_
      exact j_iret X dL_setNeed_20 ⟨_, rfl, hK⟩ (fun _ h => h)
    | 1 =>
      refine j_eq (o1 := some (0, (-99999 : Int32), (S1, L))) rfl (j_pc (pc1 := 21) rfl ?_)
      refine j_astore X [(4, .ref q), (0, .ref (kB κ + 0)), (1, .int p1), (2, .int p2), (3, .int p3)] dL_setNeed_21 (by decide) rfl ?_
      refine j_ldc X kc_L_16 dL_setNeed_23 ?_
      exact j_iret X dL_setNeed_25 ⟨_, rfl, hK⟩ (fun _ h => h)
    | 2 => exact j_eq (o1 := none) rfl j_none
    | t + 3 => exact j_eq (o1 := none) rfl j_none
  · subst hM1
    have hK : LogK (kD κ) (kB κ) (kT κ) X9 L X9 := LogK.rf hL
    refine j_st (st1 := [.int v]) rfl ?_
    refine j_if_eq X 14 dL_setNeed_7 (by decide) ?_ ?_
    · refine j_iconst X (0 : Int32) dL_setNeed_14 (by rfl) ?_
      exact j_iret X dL_setNeed_15 ⟨_, rfl, hK⟩ (fun _ h => h)
    · refine j_iconst X (1 : Int32) dL_setNeed_10 (by rfl) ?_
      refine j_goto X 15 dL_setNeed_11 (by decide) ?_
      exact j_iret X dL_setNeed_15 ⟨_, rfl, hK⟩ (fun _ h => h)
def f_L_show (S : jS) (L : jLg) (p1 : Int32) (p2 : Int32) : Option (jR jSL) := jcat (f_X10_show S L p1 p2) (fun v S1 => some (0, v, (S1.1, S1.2))) (fun t S1 => if t = 1 then some (0, (-99999 : Int32), (S1.1, S1.2)) else if t = 2 then some (0, (-99999 : Int32), (S1.1, S1.2)) else none)
abbrev rm_L_show : Room := { frames := 9, cells := 5, slots := 623, locals := 246 }
set_option maxHeartbeats 4000000 in
set_option maxRecDepth 100000 in
theorem c_L_show {l : Launch} {D : va_G} {B t0 : Nat} (hl9 : l.stackTraces = false) (S : jS) (X9 : jMem) (L : jLg) (hL : LogX D B t0 L X9) (p1 : Int32) (p2 : Int32) : jCfH l D B t0 yL_show cL_show 4 (some .int) [(0, 6, 7, 14), (0, 6, 11, 25)] rm_L_show [.ref (B + 0), .int p1, .int p2] (memG 0 358 D B S X9) (zD D) (f_L_show S L p1 p2) rvI (LPN D B t0 X9) (zD D) := by
  refine jC_ofH hl9 [(0, .ref (B + 0)), (1, .int p1), (2, .int p2)] ⟨by decide +kernel, Nat.le_of_ble_eq_true rfl⟩ rfl (fun κ hl hD hB hT X htab => ?_)
  subst hl hD hB hT
  have X : jX κ RL cL_show 4 (some .int) := X
  unfold f_L_show
  refine j_aload_n X 0 rfl dL_show_0 rfl ?_
  refine j_iload_n X 1 rfl dL_show_1 rfl ?_
  refine j_iload_n X 2 rfl dL_show_2 rfl ?_
  refine j_callVT X 0 0 (fun t => match t with | 0 => 7 | 1 => 11 | _ => 0) (c_X10_show X.tr S X9 L hL p1 p2) me_X10_show ml_L_49 iv_X10_show cf_X10 dL_show_3 (memG_at kf_0) (rest := []) rfl rfl (by decide) (by decide) (Nat.le_of_ble_eq_true rfl) zD_mono (fun t S1 hne => ?_) (fun t S1 M1 q hM1 => ?_) (fun v S1 M1 hM1 => ?_)
  · match t, hne with
    | 0, _ => exact ⟨[], (⟨0, 6, 7, 14⟩ : ExceptionTableEntry), [(⟨0, 6, 11, 25⟩ : ExceptionTableEntry)], htab, (fun z hz => nomatch hz), by decide, by decide, cl_L_14, ca_E1, rfl⟩
    | 1, _ => exact ⟨[(⟨0, 6, 7, 14⟩ : ExceptionTableEntry)], (⟨0, 6, 11, 25⟩ : ExceptionTableEntry), [], htab, (fun z hz => by
        simp only [List.mem_cons, List.not_mem_nil, or_false] at hz
        subst hz
        exact Or.inr ⟨by decide, _, cl_L_14, X.k.1.2.1⟩), by decide, by decide, cl_L_25, ca_E2, rfl⟩
    | 2, hne => exact absurd rfl hne
    | t + 3, hne => exact absurd rfl hne
  · obtain ⟨X1, rfl, hK⟩ := hM1
    match t with
    | 0 =>
      refine j_eq (o1 := some (0, (-99999 : Int32), (S1.1, S1.2))) rfl (j_pc (pc1 := 7) rfl ?_)
      refine j_astore_n X [(3, .ref q), (0, .ref (kB κ + 0)), (1, .int p1), (2, .int p2)] dL_show_7 rfl (by decide) rfl ?_
      refine j_ldc X kc_L_16 dL_show_8 ?_
      exact j_iret X dL_show_10 ⟨_, rfl, hK⟩ (fun _ h => h)
    | 1 =>
      refine j_eq (o1 := some (0, (-99999 : Int32), (S1.1, S1.2))) rfl (j_pc (pc1 := 11) rfl ?_)
      refine j_astore_n X [(3, .ref q), (0, .ref (kB κ + 0)), (1, .int p1), (2, .int p2)] dL_show_11 rfl (by decide) rfl ?_
      refine j_ldc X kc_L_16 dL_show_12 ?_
      exact j_iret X dL_show_14 ⟨_, rfl, hK⟩ (fun _ h => h)
    | 2 => exact j_eq (o1 := none) rfl j_none
    | t + 3 => exact j_eq (o1 := none) rfl j_none
  · obtain ⟨X1, rfl, hK⟩ := hM1
    refine j_st (st1 := [.int v]) rfl ?_
    exact j_iret X dL_show_6 ⟨_, rfl, hK⟩ (fun _ h => h)
def f_L_setShares (S : jS) (L : jLg) (p1 : Int32) (p2 : Int32) (p3 : Int32) (p4 : Int32) (p5 : Int32) : Option (jR jSL) := jcat (f_X10_setShares S p1 p2 p3 p4 p5) (fun v S1 => some (0, v, (S1, L))) (fun t S1 => if t = 1 then some (0, (-99999 : Int32), (S1, L)) else if t = 2 then some (0, (-99999 : Int32), (S1, L)) else none)
abbrev rm_L_setShares : Room := { frames := 9, cells := 6, slots := 36, locals := 158 }
set_option maxHeartbeats 4000000 in
set_option maxRecDepth 100000 in
theorem c_L_setShares {l : Launch} {D : va_G} {B t0 : Nat} (hl9 : l.stackTraces = false) (S : jS) (X9 : jMem) (L : jLg) (hL : LogX D B t0 L X9) (p1 : Int32) (p2 : Int32) (p3 : Int32) (p4 : Int32) (p5 : Int32) : jCfH l D B t0 yL_setShares cL_setShares 7 (some .int) [(0, 11, 12, 14), (0, 11, 17, 25)] rm_L_setShares [.ref (B + 0), .int p1, .int p2, .int p3, .int p4, .int p5] (memG 0 358 D B S X9) (zD D) (f_L_setShares S L p1 p2 p3 p4 p5) rvI (LPN D B t0 X9) (zD D) := by
  refine jC_ofH hl9 [(0, .ref (B + 0)), (1, .int p1), (2, .int p2), (3, .int p3), (4, .int p4), (5, .int p5)] ⟨by decide +kernel, Nat.le_of_ble_eq_true rfl⟩ rfl (fun κ hl hD hB hT X htab => ?_)
  subst hl hD hB hT
  have X : jX κ RL cL_setShares 7 (some .int) := X
  unfold f_L_setShares
  refine j_aload_n X 0 rfl dL_setShares_0 rfl ?_
  refine j_iload_n X 1 rfl dL_setShares_1 rfl ?_
  refine j_iload_n X 2 rfl dL_setShares_2 rfl ?_
  refine j_iload_n X 3 rfl dL_setShares_3 rfl ?_
  refine j_iload X 4 rfl dL_setShares_4 ?_
  refine j_iload X 5 rfl dL_setShares_6 ?_
  refine j_callVT X 0 0 (fun t => match t with | 0 => 12 | 1 => 17 | _ => 0) (c_X10_setShares X.tr S X9 (zD (kD κ)) p1 p2 p3 p4 p5) me_X10_setShares ml_L_52 iv_X10_setShares cf_X10 dL_setShares_8 (memG_at kf_0) (rest := []) rfl rfl (by decide) (by decide) (Nat.le_of_ble_eq_true rfl) zD_mono (fun t S1 hne => ?_) (fun t S1 M1 q hM1 => ?_) (fun v S1 M1 hM1 => ?_)
  · match t, hne with
    | 0, _ => exact ⟨[], (⟨0, 11, 12, 14⟩ : ExceptionTableEntry), [(⟨0, 11, 17, 25⟩ : ExceptionTableEntry)], htab, (fun z hz => nomatch hz), by decide, by decide, cl_L_14, ca_E1, rfl⟩
    | 1, _ => exact ⟨[(⟨0, 11, 12, 14⟩ : ExceptionTableEntry)], (⟨0, 11, 17, 25⟩ : ExceptionTableEntry), [], htab, (fun z hz => by
        simp only [List.mem_cons, List.not_mem_nil, or_false] at hz
        subst hz
        exact Or.inr ⟨by decide, _, cl_L_14, X.k.1.2.1⟩), by decide, by decide, cl_L_25, ca_E2, rfl⟩
    | 2, hne => exact absurd rfl hne
    | t + 3, hne => exact absurd rfl hne
  · subst hM1
    have hK : LogK (kD κ) (kB κ) (kT κ) X9 L X9 := LogK.rf hL
    match t with
    | 0 =>
      refine j_eq (o1 := some (0, (-99999 : Int32), (S1, L))) rfl (j_pc (pc1 := 12) rfl ?_)
      refine j_astore X [(6, .ref q), (0, .ref (kB κ + 0)), (1, .int p1), (2, .int p2), (3, .int p3), (4, .int p4), (5, .int p5)] dL_setShares_12 (by decide) rfl ?_
      refine j_ldc X kc_L_16 dL_setShares_14 ?_
      exact j_iret X dL_setShares_16 ⟨_, rfl, hK⟩ (fun _ h => h)
    | 1 =>
      refine j_eq (o1 := some (0, (-99999 : Int32), (S1, L))) rfl (j_pc (pc1 := 17) rfl ?_)
      refine j_astore X [(6, .ref q), (0, .ref (kB κ + 0)), (1, .int p1), (2, .int p2), (3, .int p3), (4, .int p4), (5, .int p5)] dL_setShares_17 (by decide) rfl ?_
      refine j_ldc X kc_L_16 dL_setShares_19 ?_
      exact j_iret X dL_setShares_21 ⟨_, rfl, hK⟩ (fun _ h => h)
    | 2 => exact j_eq (o1 := none) rfl j_none
    | t + 3 => exact j_eq (o1 := none) rfl j_none
  · subst hM1
    have hK : LogK (kD κ) (kB κ) (kT κ) X9 L X9 := LogK.rf hL
    refine j_st (st1 := [.int v]) rfl ?_
    exact j_iret X dL_setShares_11 ⟨_, rfl, hK⟩ (fun _ h => h)
def f_L_setSalt (S : jS) (L : jLg) (p1 : Int32) (p2 : Int32) : Option (jR jSL) := jcat (f_X10_setSalt S p1 p2) (fun v S1 => some (0, v, (S1, L))) (fun t S1 => if t = 1 then some (0, (-99999 : Int32), (S1, L)) else if t = 2 then some (0, (-99999 : Int32), (S1, L)) else none)
abbrev rm_L_setSalt : Room := { frames := 9, cells := 3, slots := 18, locals := 155 }
set_option maxHeartbeats 4000000 in
set_option maxRecDepth 100000 in
theorem c_L_setSalt {l : Launch} {D : va_G} {B t0 : Nat} (hl9 : l.stackTraces = false) (S : jS) (X9 : jMem) (L : jLg) (hL : LogX D B t0 L X9) (p1 : Int32) (p2 : Int32) : jCfH l D B t0 yL_setSalt cL_setSalt 4 (some .int) [(0, 6, 7, 14), (0, 6, 11, 25)] rm_L_setSalt [.ref (B + 0), .int p1, .int p2] (memG 0 358 D B S X9) (zD D) (f_L_setSalt S L p1 p2) rvI (LPN D B t0 X9) (zD D) := by
  refine jC_ofH hl9 [(0, .ref (B + 0)), (1, .int p1), (2, .int p2)] ⟨by decide +kernel, Nat.le_of_ble_eq_true rfl⟩ rfl (fun κ hl hD hB hT X htab => ?_)
  subst hl hD hB hT
  have X : jX κ RL cL_setSalt 4 (some .int) := X
  unfold f_L_setSalt
  refine j_aload_n X 0 rfl dL_setSalt_0 rfl ?_
  refine j_iload_n X 1 rfl dL_setSalt_1 rfl ?_
  refine j_iload_n X 2 rfl dL_setSalt_2 rfl ?_
  refine j_callVT X 0 0 (fun t => match t with | 0 => 7 | 1 => 11 | _ => 0) (c_X10_setSalt X.tr S X9 (zD (kD κ)) p1 p2) me_X10_setSalt ml_L_56 iv_X10_setSalt cf_X10 dL_setSalt_3 (memG_at kf_0) (rest := []) rfl rfl (by decide) (by decide) (Nat.le_of_ble_eq_true rfl) zD_mono (fun t S1 hne => ?_) (fun t S1 M1 q hM1 => ?_) (fun v S1 M1 hM1 => ?_)
  · match t, hne with
    | 0, _ => exact ⟨[], (⟨0, 6, 7, 14⟩ : ExceptionTableEntry), [(⟨0, 6, 11, 25⟩ : ExceptionTableEntry)], htab, (fun z hz => nomatch hz), by decide, by decide, cl_L_14, ca_E1, rfl⟩
    | 1, _ => exact ⟨[(⟨0, 6, 7, 14⟩ : ExceptionTableEntry)], (⟨0, 6, 11, 25⟩ : ExceptionTableEntry), [], htab, (fun z hz => by
        simp only [List.mem_cons, List.not_mem_nil, or_false] at hz
        subst hz
        exact Or.inr ⟨by decide, _, cl_L_14, X.k.1.2.1⟩), by decide, by decide, cl_L_25, ca_E2, rfl⟩
    | 2, hne => exact absurd rfl hne
    | t + 3, hne => exact absurd rfl hne
  · subst hM1
    have hK : LogK (kD κ) (kB κ) (kT κ) X9 L X9 := LogK.rf hL
    match t with
    | 0 =>
      refine j_eq (o1 := some (0, (-99999 : Int32), (S1, L))) rfl (j_pc (pc1 := 7) rfl ?_)
      refine j_astore_n X [(3, .ref q), (0, .ref (kB κ + 0)), (1, .int p1), (2, .int p2)] dL_setSalt_7 rfl (by decide) rfl ?_
      refine j_ldc X kc_L_16 dL_setSalt_8 ?_
      exact j_iret X dL_setSalt_10 ⟨_, rfl, hK⟩ (fun _ h => h)
    | 1 =>
      refine j_eq (o1 := some (0, (-99999 : Int32), (S1, L))) rfl (j_pc (pc1 := 11) rfl ?_)
      refine j_astore_n X [(3, .ref q), (0, .ref (kB κ + 0)), (1, .int p1), (2, .int p2)] dL_setSalt_11 rfl (by decide) rfl ?_
      refine j_ldc X kc_L_16 dL_setSalt_12 ?_
      exact j_iret X dL_setSalt_14 ⟨_, rfl, hK⟩ (fun _ h => h)
    | 2 => exact j_eq (o1 := none) rfl j_none
    | t + 3 => exact j_eq (o1 := none) rfl j_none
  · subst hM1
    have hK : LogK (kD κ) (kB κ) (kT κ) X9 L X9 := LogK.rf hL
    refine j_st (st1 := [.int v]) rfl ?_
    exact j_iret X dL_setSalt_6 ⟨_, rfl, hK⟩ (fun _ h => h)
def f_L_stop (S : jS) (L : jLg) (p1 : Int32) (p2 : Int32) : Option (jR jSL) := jcat (f_X10_stop S p1 p2) (fun v S1 => some (0, v, (S1, L))) (fun t S1 => if t = 1 then some (0, (-99999 : Int32), (S1, L)) else if t = 2 then some (0, (-99999 : Int32), (S1, L)) else none)
abbrev rm_L_stop : Room := { frames := 9, cells := 3, slots := 18, locals := 156 }
set_option maxHeartbeats 4000000 in
set_option maxRecDepth 100000 in
theorem c_L_stop {l : Launch} {D : va_G} {B t0 : Nat} (hl9 : l.stackTraces = false) (S : jS) (X9 : jMem) (L : jLg) (hL : LogX D B t0 L X9) (p1 : Int32) (p2 : Int32) : jCfH l D B t0 yL_stop cL_stop 4 (some .int) [(0, 6, 7, 14), (0, 6, 11, 25)] rm_L_stop [.ref (B + 0), .int p1, .int p2] (memG 0 358 D B S X9) (zD D) (f_L_stop S L p1 p2) rvI (LPN D B t0 X9) (zD D) := by
  refine jC_ofH hl9 [(0, .ref (B + 0)), (1, .int p1), (2, .int p2)] ⟨by decide +kernel, Nat.le_of_ble_eq_true rfl⟩ rfl (fun κ hl hD hB hT X htab => ?_)
  subst hl hD hB hT
  have X : jX κ RL cL_stop 4 (some .int) := X
  unfold f_L_stop
  refine j_aload_n X 0 rfl dL_stop_0 rfl ?_
  refine j_iload_n X 1 rfl dL_stop_1 rfl ?_
  refine j_iload_n X 2 rfl dL_stop_2 rfl ?_
  refine j_callVT X 0 0 (fun t => match t with | 0 => 7 | 1 => 11 | _ => 0) (c_X10_stop X.tr S X9 (zD (kD κ)) p1 p2) me_X10_stop ml_L_59 iv_X10_stop cf_X10 dL_stop_3 (memG_at kf_0) (rest := []) rfl rfl (by decide) (by decide) (Nat.le_of_ble_eq_true rfl) zD_mono (fun t S1 hne => ?_) (fun t S1 M1 q hM1 => ?_) (fun v S1 M1 hM1 => ?_)
  · match t, hne with
    | 0, _ => exact ⟨[], (⟨0, 6, 7, 14⟩ : ExceptionTableEntry), [(⟨0, 6, 11, 25⟩ : ExceptionTableEntry)], htab, (fun z hz => nomatch hz), by decide, by decide, cl_L_14, ca_E1, rfl⟩
    | 1, _ => exact ⟨[(⟨0, 6, 7, 14⟩ : ExceptionTableEntry)], (⟨0, 6, 11, 25⟩ : ExceptionTableEntry), [], htab, (fun z hz => by
        simp only [List.mem_cons, List.not_mem_nil, or_false] at hz
        subst hz
        exact Or.inr ⟨by decide, _, cl_L_14, X.k.1.2.1⟩), by decide, by decide, cl_L_25, ca_E2, rfl⟩
    | 2, hne => exact absurd rfl hne
    | t + 3, hne => exact absurd rfl hne
  · subst hM1
    have hK : LogK (kD κ) (kB κ) (kT κ) X9 L X9 := LogK.rf hL
    match t with
    | 0 =>
      refine j_eq (o1 := some (0, (-99999 : Int32), (S1, L))) rfl (j_pc (pc1 := 7) rfl ?_)
      refine j_astore_n X [(3, .ref q), (0, .ref (kB κ + 0)), (1, .int p1), (2, .int p2)] dL_stop_7 rfl (by decide) rfl ?_
      refine j_ldc X kc_L_16 dL_stop_8 ?_
      exact j_iret X dL_stop_10 ⟨_, rfl, hK⟩ (fun _ h => h)
    | 1 =>
      refine j_eq (o1 := some (0, (-99999 : Int32), (S1, L))) rfl (j_pc (pc1 := 11) rfl ?_)
      refine j_astore_n X [(3, .ref q), (0, .ref (kB κ + 0)), (1, .int p1), (2, .int p2)] dL_stop_11 rfl (by decide) rfl ?_
      refine j_ldc X kc_L_16 dL_stop_12 ?_
      exact j_iret X dL_stop_14 ⟨_, rfl, hK⟩ (fun _ h => h)
    | 2 => exact j_eq (o1 := none) rfl j_none
    | t + 3 => exact j_eq (o1 := none) rfl j_none
  · subst hM1
    have hK : LogK (kD κ) (kB κ) (kT κ) X9 L X9 := LogK.rf hL
    refine j_st (st1 := [.int v]) rfl ?_
    exact j_iret X dL_stop_6 ⟨_, rfl, hK⟩ (fun _ h => h)
def f_L_beginAnew (S : jS) (L : jLg) (p1 : Int32) : Option (jR jSL) := jcat (f_X10_beginAnew S L p1) (fun v S1 => some (0, v, (S1.1, S1.2))) (fun t S1 => if t = 1 then some (0, (-99999 : Int32), (S1.1, S1.2)) else if t = 2 then some (0, (-99999 : Int32), (S1.1, S1.2)) else none)
abbrev rm_L_beginAnew : Room := { frames := 9, cells := 5, slots := 623, locals := 245 }
set_option maxHeartbeats 4000000 in
set_option maxRecDepth 100000 in
theorem c_L_beginAnew {l : Launch} {D : va_G} {B t0 : Nat} (hl9 : l.stackTraces = false) (S : jS) (X9 : jMem) (L : jLg) (hL : LogX D B t0 L X9) (p1 : Int32) : jCfH l D B t0 yL_beginAnew cL_beginAnew 3 (some .int) [(0, 5, 6, 14), (0, 5, 10, 25)] rm_L_beginAnew [.ref (B + 0), .int p1] (memG 0 358 D B S X9) (zD D) (f_L_beginAnew S L p1) rvI (LPN D B t0 X9) (zD D) := by
  refine jC_ofH hl9 [(0, .ref (B + 0)), (1, .int p1)] ⟨by decide +kernel, Nat.le_of_ble_eq_true rfl⟩ rfl (fun κ hl hD hB hT X htab => ?_)
  subst hl hD hB hT
  have X : jX κ RL cL_beginAnew 3 (some .int) := X
  unfold f_L_beginAnew
  refine j_aload_n X 0 rfl dL_beginAnew_0 rfl ?_
  refine j_iload_n X 1 rfl dL_beginAnew_1 rfl ?_
  refine j_callVT X 0 0 (fun t => match t with | 0 => 6 | 1 => 10 | _ => 0) (c_X10_beginAnew X.tr S X9 L hL p1) me_X10_beginAnew ml_L_62 iv_X10_beginAnew cf_X10 dL_beginAnew_2 (memG_at kf_0) (rest := []) rfl rfl (by decide) (by decide) (Nat.le_of_ble_eq_true rfl) zD_mono (fun t S1 hne => ?_) (fun t S1 M1 q hM1 => ?_) (fun v S1 M1 hM1 => ?_)
  · match t, hne with
    | 0, _ => exact ⟨[], (⟨0, 5, 6, 14⟩ : ExceptionTableEntry), [(⟨0, 5, 10, 25⟩ : ExceptionTableEntry)], htab, (fun z hz => nomatch hz), by decide, by decide, cl_L_14, ca_E1, rfl⟩
    | 1, _ => exact ⟨[(⟨0, 5, 6, 14⟩ : ExceptionTableEntry)], (⟨0, 5, 10, 25⟩ : ExceptionTableEntry), [], htab, (fun z hz => by
        simp only [List.mem_cons, List.not_mem_nil, or_false] at hz
        subst hz
        exact Or.inr ⟨by decide, _, cl_L_14, X.k.1.2.1⟩), by decide, by decide, cl_L_25, ca_E2, rfl⟩
    | 2, hne => exact absurd rfl hne
    | t + 3, hne => exact absurd rfl hne
  · obtain ⟨X1, rfl, hK⟩ := hM1
    match t with
    | 0 =>
      refine j_eq (o1 := some (0, (-99999 : Int32), (S1.1, S1.2))) rfl (j_pc (pc1 := 6) rfl ?_)
      refine j_astore_n X [(2, .ref q), (0, .ref (kB κ + 0)), (1, .int p1)] dL_beginAnew_6 rfl (by decide) rfl ?_
      refine j_ldc X kc_L_16 dL_beginAnew_7 ?_
      exact j_iret X dL_beginAnew_9 ⟨_, rfl, hK⟩ (fun _ h => h)
    | 1 =>
      refine j_eq (o1 := some (0, (-99999 : Int32), (S1.1, S1.2))) rfl (j_pc (pc1 := 10) rfl ?_)
      refine j_astore_n X [(2, .ref q), (0, .ref (kB κ + 0)), (1, .int p1)] dL_beginAnew_10 rfl (by decide) rfl ?_
      refine j_ldc X kc_L_16 dL_beginAnew_11 ?_
      exact j_iret X dL_beginAnew_13 ⟨_, rfl, hK⟩ (fun _ h => h)
    | 2 => exact j_eq (o1 := none) rfl j_none
    | t + 3 => exact j_eq (o1 := none) rfl j_none
  · obtain ⟨X1, rfl, hK⟩ := hM1
    refine j_st (st1 := [.int v]) rfl ?_
    exact j_iret X dL_beginAnew_5 ⟨_, rfl, hK⟩ (fun _ h => h)
def f_L_hold (S : jS) (L : jLg) (p1 : Int32) (p2 : Int32) : Option (jR jSL) := jcat (f_X10_hold S L p1 p2) (fun v S1 => some (0, v, (S1.1, S1.2))) (fun t S1 => if t = 1 then some (0, (-99999 : Int32), (S1.1, S1.2)) else if t = 2 then some (0, (-99999 : Int32), (S1.1, S1.2)) else none)
abbrev rm_L_hold : Room := { frames := 9, cells := 6, slots := 629, locals := 245 }
set_option maxHeartbeats 4000000 in
set_option maxRecDepth 100000 in
theorem c_L_hold {l : Launch} {D : va_G} {B t0 : Nat} (hl9 : l.stackTraces = false) (S : jS) (X9 : jMem) (L : jLg) (hL : LogX D B t0 L X9) (p1 : Int32) (p2 : Int32) : jCfH l D B t0 yL_hold cL_hold 4 (some .int) [(0, 6, 7, 14), (0, 6, 11, 25)] rm_L_hold [.ref (B + 0), .int p1, .int p2] (memG 0 358 D B S X9) (zD D) (f_L_hold S L p1 p2) rvI (LPN D B t0 X9) (zD D) := by
  refine jC_ofH hl9 [(0, .ref (B + 0)), (1, .int p1), (2, .int p2)] ⟨by decide +kernel, Nat.le_of_ble_eq_true rfl⟩ rfl (fun κ hl hD hB hT X htab => ?_)
  subst hl hD hB hT
  have X : jX κ RL cL_hold 4 (some .int) := X
  unfold f_L_hold
  refine j_aload_n X 0 rfl dL_hold_0 rfl ?_
  refine j_iload_n X 1 rfl dL_hold_1 rfl ?_
  refine j_iload_n X 2 rfl dL_hold_2 rfl ?_
  refine j_callVT X 0 0 (fun t => match t with | 0 => 7 | 1 => 11 | _ => 0) (c_X10_hold X.tr S X9 L hL p1 p2) me_X10_hold ml_L_65 iv_X10_hold cf_X10 dL_hold_3 (memG_at kf_0) (rest := []) rfl rfl (by decide) (by decide) (Nat.le_of_ble_eq_true rfl) zD_mono (fun t S1 hne => ?_) (fun t S1 M1 q hM1 => ?_) (fun v S1 M1 hM1 => ?_)
  · match t, hne with
    | 0, _ => exact ⟨[], (⟨0, 6, 7, 14⟩ : ExceptionTableEntry), [(⟨0, 6, 11, 25⟩ : ExceptionTableEntry)], htab, (fun z hz => nomatch hz), by decide, by decide, cl_L_14, ca_E1, rfl⟩
    | 1, _ => exact ⟨[(⟨0, 6, 7, 14⟩ : ExceptionTableEntry)], (⟨0, 6, 11, 25⟩ : ExceptionTableEntry), [], htab, (fun z hz => by
        simp only [List.mem_cons, List.not_mem_nil, or_false] at hz
        subst hz
        exact Or.inr ⟨by decide, _, cl_L_14, X.k.1.2.1⟩), by decide, by decide, cl_L_25, ca_E2, rfl⟩
    | 2, hne => exact absurd rfl hne
    | t + 3, hne => exact absurd rfl hne
  · obtain ⟨X1, rfl, hK⟩ := hM1
    match t with
    | 0 =>
      refine j_eq (o1 := some (0, (-99999 : Int32), (S1.1, S1.2))) rfl (j_pc (pc1 := 7) rfl ?_)
      refine j_astore_n X [(3, .ref q), (0, .ref (kB κ + 0)), (1, .int p1), (2, .int p2)] dL_hold_7 rfl (by decide) rfl ?_
      refine j_ldc X kc_L_16 dL_hold_8 ?_
      exact j_iret X dL_hold_10 ⟨_, rfl, hK⟩ (fun _ h => h)
    | 1 =>
      refine j_eq (o1 := some (0, (-99999 : Int32), (S1.1, S1.2))) rfl (j_pc (pc1 := 11) rfl ?_)
      refine j_astore_n X [(3, .ref q), (0, .ref (kB κ + 0)), (1, .int p1), (2, .int p2)] dL_hold_11 rfl (by decide) rfl ?_
      refine j_ldc X kc_L_16 dL_hold_12 ?_
      exact j_iret X dL_hold_14 ⟨_, rfl, hK⟩ (fun _ h => h)
    | 2 => exact j_eq (o1 := none) rfl j_none
    | t + 3 => exact j_eq (o1 := none) rfl j_none
  · obtain ⟨X1, rfl, hK⟩ := hM1
    refine j_st (st1 := [.int v]) rfl ?_
    exact j_iret X dL_hold_6 ⟨_, rfl, hK⟩ (fun _ h => h)
def f_L_release (S : jS) (L : jLg) (p1 : Int32) (p2 : Int32) : Option (jR jSL) := jcat (f_X10_release S L p1 p2) (fun v S1 => some (0, v, (S1.1, S1.2))) (fun t S1 => if t = 1 then some (0, (-99999 : Int32), (S1.1, S1.2)) else if t = 2 then some (0, (-99999 : Int32), (S1.1, S1.2)) else none)
abbrev rm_L_release : Room := { frames := 9, cells := 6, slots := 629, locals := 244 }
set_option maxHeartbeats 4000000 in
set_option maxRecDepth 100000 in
theorem c_L_release {l : Launch} {D : va_G} {B t0 : Nat} (hl9 : l.stackTraces = false) (S : jS) (X9 : jMem) (L : jLg) (hL : LogX D B t0 L X9) (p1 : Int32) (p2 : Int32) : jCfH l D B t0 yL_release cL_release 4 (some .int) [(0, 6, 7, 14), (0, 6, 11, 25)] rm_L_release [.ref (B + 0), .int p1, .int p2] (memG 0 358 D B S X9) (zD D) (f_L_release S L p1 p2) rvI (LPN D B t0 X9) (zD D) := by
  refine jC_ofH hl9 [(0, .ref (B + 0)), (1, .int p1), (2, .int p2)] ⟨by decide +kernel, Nat.le_of_ble_eq_true rfl⟩ rfl (fun κ hl hD hB hT X htab => ?_)
  subst hl hD hB hT
  have X : jX κ RL cL_release 4 (some .int) := X
  unfold f_L_release
  refine j_aload_n X 0 rfl dL_release_0 rfl ?_
  refine j_iload_n X 1 rfl dL_release_1 rfl ?_
  refine j_iload_n X 2 rfl dL_release_2 rfl ?_
  refine j_callVT X 0 0 (fun t => match t with | 0 => 7 | 1 => 11 | _ => 0) (c_X10_release X.tr S X9 L hL p1 p2) me_X10_release ml_L_68 iv_X10_release cf_X10 dL_release_3 (memG_at kf_0) (rest := []) rfl rfl (by decide) (by decide) (Nat.le_of_ble_eq_true rfl) zD_mono (fun t S1 hne => ?_) (fun t S1 M1 q hM1 => ?_) (fun v S1 M1 hM1 => ?_)
  · match t, hne with
    | 0, _ => exact ⟨[], (⟨0, 6, 7, 14⟩ : ExceptionTableEntry), [(⟨0, 6, 11, 25⟩ : ExceptionTableEntry)], htab, (fun z hz => nomatch hz), by decide, by decide, cl_L_14, ca_E1, rfl⟩
    | 1, _ => exact ⟨[(⟨0, 6, 7, 14⟩ : ExceptionTableEntry)], (⟨0, 6, 11, 25⟩ : ExceptionTableEntry), [], htab, (fun z hz => by
        simp only [List.mem_cons, List.not_mem_nil, or_false] at hz
        subst hz
        exact Or.inr ⟨by decide, _, cl_L_14, X.k.1.2.1⟩), by decide, by decide, cl_L_25, ca_E2, rfl⟩
    | 2, hne => exact absurd rfl hne
    | t + 3, hne => exact absurd rfl hne
  · obtain ⟨X1, rfl, hK⟩ := hM1
    match t with
    | 0 =>
      refine j_eq (o1 := some (0, (-99999 : Int32), (S1.1, S1.2))) rfl (j_pc (pc1 := 7) rfl ?_)
      refine j_astore_n X [(3, .ref q), (0, .ref (kB κ + 0)), (1, .int p1), (2, .int p2)] dL_release_7 rfl (by decide) rfl ?_
      refine j_ldc X kc_L_16 dL_release_8 ?_
      exact j_iret X dL_release_10 ⟨_, rfl, hK⟩ (fun _ h => h)
    | 1 =>
      refine j_eq (o1 := some (0, (-99999 : Int32), (S1.1, S1.2))) rfl (j_pc (pc1 := 11) rfl ?_)
      refine j_astore_n X [(3, .ref q), (0, .ref (kB κ + 0)), (1, .int p1), (2, .int p2)] dL_release_11 rfl (by decide) rfl ?_
      refine j_ldc X kc_L_16 dL_release_12 ?_
      exact j_iret X dL_release_14 ⟨_, rfl, hK⟩ (fun _ h => h)
    | 2 => exact j_eq (o1 := none) rfl j_none
    | t + 3 => exact j_eq (o1 := none) rfl j_none
  · obtain ⟨X1, rfl, hK⟩ := hM1
    refine j_st (st1 := [.int v]) rfl ?_
    exact j_iret X dL_release_6 ⟨_, rfl, hK⟩ (fun _ h => h)
def f_L_holdTrial (S : jS) (L : jLg) (p1 : Int32) : Option (jR jSL) := jcat (f_X10_holdTrial S L p1) (fun v S1 => some (0, v, (S1.1, S1.2))) (fun t S1 => if t = 1 then some (0, (-99999 : Int32), (S1.1, S1.2)) else if t = 2 then some (0, (-99999 : Int32), (S1.1, S1.2)) else none)
abbrev rm_L_holdTrial : Room := { frames := 9, cells := 5, slots := 623, locals := 245 }
set_option maxHeartbeats 4000000 in
set_option maxRecDepth 100000 in
theorem c_L_holdTrial {l : Launch} {D : va_G} {B t0 : Nat} (hl9 : l.stackTraces = false) (S : jS) (X9 : jMem) (L : jLg) (hL : LogX D B t0 L X9) (p1 : Int32) : jCfH l D B t0 yL_holdTrial cL_holdTrial 3 (some .int) [(0, 5, 6, 14), (0, 5, 10, 25)] rm_L_holdTrial [.ref (B + 0), .int p1] (memG 0 358 D B S X9) (zD D) (f_L_holdTrial S L p1) rvI (LPN D B t0 X9) (zD D) := by
  refine jC_ofH hl9 [(0, .ref (B + 0)), (1, .int p1)] ⟨by decide +kernel, Nat.le_of_ble_eq_true rfl⟩ rfl (fun κ hl hD hB hT X htab => ?_)
  subst hl hD hB hT
  have X : jX κ RL cL_holdTrial 3 (some .int) := X
  unfold f_L_holdTrial
  refine j_aload_n X 0 rfl dL_holdTrial_0 rfl ?_
  refine j_iload_n X 1 rfl dL_holdTrial_1 rfl ?_
  refine j_callVT X 0 0 (fun t => match t with | 0 => 6 | 1 => 10 | _ => 0) (c_X10_holdTrial X.tr S X9 L hL p1) me_X10_holdTrial ml_L_71 iv_X10_holdTrial cf_X10 dL_holdTrial_2 (memG_at kf_0) (rest := []) rfl rfl (by decide) (by decide) (Nat.le_of_ble_eq_true rfl) zD_mono (fun t S1 hne => ?_) (fun t S1 M1 q hM1 => ?_) (fun v S1 M1 hM1 => ?_)
  · match t, hne with
    | 0, _ => exact ⟨[], (⟨0, 5, 6, 14⟩ : ExceptionTableEntry), [(⟨0, 5, 10, 25⟩ : ExceptionTableEntry)], htab, (fun z hz => nomatch hz), by decide, by decide, cl_L_14, ca_E1, rfl⟩
    | 1, _ => exact ⟨[(⟨0, 5, 6, 14⟩ : ExceptionTableEntry)], (⟨0, 5, 10, 25⟩ : ExceptionTableEntry), [], htab, (fun z hz => by
        simp only [List.mem_cons, List.not_mem_nil, or_false] at hz
        subst hz
        exact Or.inr ⟨by decide, _, cl_L_14, X.k.1.2.1⟩), by decide, by decide, cl_L_25, ca_E2, rfl⟩
    | 2, hne => exact absurd rfl hne
    | t + 3, hne => exact absurd rfl hne
  · obtain ⟨X1, rfl, hK⟩ := hM1
    match t with
    | 0 =>
      refine j_eq (o1 := some (0, (-99999 : Int32), (S1.1, S1.2))) rfl (j_pc (pc1 := 6) rfl ?_)
      refine j_astore_n X [(2, .ref q), (0, .ref (kB κ + 0)), (1, .int p1)] dL_holdTrial_6 rfl (by decide) rfl ?_
      refine j_ldc X kc_L_16 dL_holdTrial_7 ?_
      exact j_iret X dL_holdTrial_9 ⟨_, rfl, hK⟩ (fun _ h => h)
    | 1 =>
      refine j_eq (o1 := some (0, (-99999 : Int32), (S1.1, S1.2))) rfl (j_pc (pc1 := 10) rfl ?_)
      refine j_astore_n X [(2, .ref q), (0, .ref (kB κ + 0)), (1, .int p1)] dL_holdTrial_10 rfl (by decide) rfl ?_
      refine j_ldc X kc_L_16 dL_holdTrial_11 ?_
      exact j_iret X dL_holdTrial_13 ⟨_, rfl, hK⟩ (fun _ h => h)
    | 2 => exact j_eq (o1 := none) rfl j_none
    | t + 3 => exact j_eq (o1 := none) rfl j_none
  · obtain ⟨X1, rfl, hK⟩ := hM1
    refine j_st (st1 := [.int v]) rfl ?_
    exact j_iret X dL_holdTrial_5 ⟨_, rfl, hK⟩ (fun _ h => h)
def f_L_releaseTrial (S : jS) (L : jLg) (p1 : Int32) : Option (jR jSL) := jcat (f_X10_releaseTrial S L p1) (fun v S1 => some (0, v, (S1.1, S1.2))) (fun t S1 => if t = 1 then some (0, (-99999 : Int32), (S1.1, S1.2)) else if t = 2 then some (0, (-99999 : Int32), (S1.1, S1.2)) else none)
abbrev rm_L_releaseTrial : Room := { frames := 9, cells := 5, slots := 623, locals := 245 }
set_option maxHeartbeats 4000000 in
set_option maxRecDepth 100000 in
theorem c_L_releaseTrial {l : Launch} {D : va_G} {B t0 : Nat} (hl9 : l.stackTraces = false) (S : jS) (X9 : jMem) (L : jLg) (hL : LogX D B t0 L X9) (p1 : Int32) : jCfH l D B t0 yL_releaseTrial cL_releaseTrial 3 (some .int) [(0, 5, 6, 14), (0, 5, 10, 25)] rm_L_releaseTrial [.ref (B + 0), .int p1] (memG 0 358 D B S X9) (zD D) (f_L_releaseTrial S L p1) rvI (LPN D B t0 X9) (zD D) := by
  refine jC_ofH hl9 [(0, .ref (B + 0)), (1, .int p1)] ⟨by decide +kernel, Nat.le_of_ble_eq_true rfl⟩ rfl (fun κ hl hD hB hT X htab => ?_)
  subst hl hD hB hT
  have X : jX κ RL cL_releaseTrial 3 (some .int) := X
  unfold f_L_releaseTrial
  refine j_aload_n X 0 rfl dL_releaseTrial_0 rfl ?_
  refine j_iload_n X 1 rfl dL_releaseTrial_1 rfl ?_
  refine j_callVT X 0 0 (fun t => match t with | 0 => 6 | 1 => 10 | _ => 0) (c_X10_releaseTrial X.tr S X9 L hL p1) me_X10_releaseTrial ml_L_74 iv_X10_releaseTrial cf_X10 dL_releaseTrial_2 (memG_at kf_0) (rest := []) rfl rfl (by decide) (by decide) (Nat.le_of_ble_eq_true rfl) zD_mono (fun t S1 hne => ?_) (fun t S1 M1 q hM1 => ?_) (fun v S1 M1 hM1 => ?_)
  · match t, hne with
    | 0, _ => exact ⟨[], (⟨0, 5, 6, 14⟩ : ExceptionTableEntry), [(⟨0, 5, 10, 25⟩ : ExceptionTableEntry)], htab, (fun z hz => nomatch hz), by decide, by decide, cl_L_14, ca_E1, rfl⟩
    | 1, _ => exact ⟨[(⟨0, 5, 6, 14⟩ : ExceptionTableEntry)], (⟨0, 5, 10, 25⟩ : ExceptionTableEntry), [], htab, (fun z hz => by
        simp only [List.mem_cons, List.not_mem_nil, or_false] at hz
        subst hz
        exact Or.inr ⟨by decide, _, cl_L_14, X.k.1.2.1⟩), by decide, by decide, cl_L_25, ca_E2, rfl⟩
    | 2, hne => exact absurd rfl hne
    | t + 3, hne => exact absurd rfl hne
  · obtain ⟨X1, rfl, hK⟩ := hM1
    match t with
    | 0 =>
      refine j_eq (o1 := some (0, (-99999 : Int32), (S1.1, S1.2))) rfl (j_pc (pc1 := 6) rfl ?_)
      refine j_astore_n X [(2, .ref q), (0, .ref (kB κ + 0)), (1, .int p1)] dL_releaseTrial_6 rfl (by decide) rfl ?_
      refine j_ldc X kc_L_16 dL_releaseTrial_7 ?_
      exact j_iret X dL_releaseTrial_9 ⟨_, rfl, hK⟩ (fun _ h => h)
    | 1 =>
      refine j_eq (o1 := some (0, (-99999 : Int32), (S1.1, S1.2))) rfl (j_pc (pc1 := 10) rfl ?_)
      refine j_astore_n X [(2, .ref q), (0, .ref (kB κ + 0)), (1, .int p1)] dL_releaseTrial_10 rfl (by decide) rfl ?_
      refine j_ldc X kc_L_16 dL_releaseTrial_11 ?_
      exact j_iret X dL_releaseTrial_13 ⟨_, rfl, hK⟩ (fun _ h => h)
    | 2 => exact j_eq (o1 := none) rfl j_none
    | t + 3 => exact j_eq (o1 := none) rfl j_none
  · obtain ⟨X1, rfl, hK⟩ := hM1
    refine j_st (st1 := [.int v]) rfl ?_
    exact j_iret X dL_releaseTrial_5 ⟨_, rfl, hK⟩ (fun _ h => h)
end GNW
