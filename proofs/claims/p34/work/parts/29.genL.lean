section GEN
def f_X10_entries (S : jS) (L : jLg) : Option (jR Unit) := some (0, (Int32.ofNat L.length), ())
abbrev rm_X10_entries : Room := { frames := 1, cells := 0, slots := 0, locals := 20 }
set_option maxHeartbeats 4000000 in
set_option maxRecDepth 100000 in
theorem c_X10_entries {l : Launch} {D : va_G} {B t0 : Nat} (hl9 : l.stackTraces = false) (S : jS) (X9 : jMem) (z : Nat → Prop) (L : jLg) (hL : LogX D B t0 L X9) : jCf l D B t0 yX10_entries cX10_entries 1 (some .int) rm_X10_entries [.ref (B + 0)] (memG 0 358 D B S X9) z (f_X10_entries S L) rvI (fun (S9 : Unit) M9 => M9 = memG 0 358 D B S X9) z := by
  refine jC_of hl9 (me_X10_entries).1 [(0, .ref (B + 0))] ⟨by decide +kernel, Nat.le_of_ble_eq_true rfl⟩ rfl (fun κ hl hD hB hT X htab hin => ?_)
  subst hl hD hB hT
  have X : jX κ RX10 cX10_entries 1 (some .int) := X
  unfold f_X10_entries
  refine j_aload_n X 0 rfl dX10_entries_0 rfl ?_
  refine g_getf X 5 kf_0 cf_X10 (by decide) fl_X10_47 dX10_entries_1 rfl rfl ?_
  refine g_lsize X hL ml_X10_216 dX10_entries_4 (by decide) (Nat.le_of_ble_eq_true rfl) ?_
  exact j_iret X dX10_entries_7 rfl (fun _ h => h)
def f_X10_checkLog (S : jS) (L : jLg) : Option (jR Unit) := (if (Int32.ofNat L.length) < (400 : Int32) then some (0, (0 : Int32), ()) else some (2, (0 : Int32), ()))
abbrev rm_X10_checkLog : Room := { frames := 6, cells := 1, slots := 6, locals := 90 }
set_option maxHeartbeats 4000000 in
set_option maxRecDepth 100000 in
theorem c_X10_checkLog {l : Launch} {D : va_G} {B t0 : Nat} (hl9 : l.stackTraces = false) (S : jS) (X9 : jMem) (z : Nat → Prop) (L : jLg) (hL : LogX D B t0 L X9) : jCf l D B t0 yX10_checkLog cX10_checkLog 1 none rm_X10_checkLog [.ref (B + 0)] (memG 0 358 D B S X9) z (f_X10_checkLog S L) rvV (fun (S9 : Unit) M9 => M9 = memG 0 358 D B S X9) z := by
  refine jC_of hl9 (me_X10_checkLog).1 [(0, .ref (B + 0))] ⟨by decide +kernel, Nat.le_of_ble_eq_true rfl⟩ rfl (fun κ hl hD hB hT X htab hin => ?_)
  subst hl hD hB hT
  have X : jX κ RX10 cX10_checkLog 1 none := X
  unfold f_X10_checkLog
  refine j_aload_n X 0 rfl dX10_checkLog_0 rfl ?_
  refine g_getf X 5 kf_0 cf_X10 (by decide) fl_X10_47 dX10_checkLog_1 rfl rfl ?_
  refine g_lsize X hL ml_X10_216 dX10_checkLog_4 (by decide) (Nat.le_of_ble_eq_true rfl) ?_
  refine j_sipush X (400 : Int32) dX10_checkLog_7 (by rfl) ?_
  refine j_icmp_lt X 24 dX10_checkLog_10 (by decide) ?_ ?_
  · exact j_vret X dX10_checkLog_24 rfl (fun _ h => h)
  · exact j_throwW X th_X10_2_114_118 sr_X10_312 htab dX10_checkLog_13 dX10_checkLog_16 dX10_checkLog_17 dX10_checkLog_20 dX10_checkLog_23 (by decide) (by decide) rfl
def f_X10_enter (S : jS) (L : jLg) (e1 : Nat → Int32) : Option (jR jSL) := chk (decide (L.length < 400)) (loopK (fun (rec3 : jS → Int32 → Option (jR jSL)) (S4 : jS) (x5 : Int32) => (if (20 : Int32) ≤ x5 then some (0, (0 : Int32), (S4, (L ++ [e1]))) else jbin0 (f_X1_concerns S4 e1 x5) (fun v6 _ => joinK (fun (S13 : jS) => letE (x5 + (1 : Int32)) fun x14 => rec3 S13 x14) (fun k7 => (if v6 = (0 : Int32) then k7 S4 else chk (inb x5 20) (jbin0 (f_X5_take S4 (82 + 12 * x5.toNatClampNeg) e1) (fun _ S9 => k7 S9))))))) (fun _ _ => none) 1000 S (0 : Int32))
abbrev rm_X10_enter : Room := { frames := 7, cells := 1, slots := 600, locals := 200 }
set_option maxHeartbeats 4000000 in
set_option maxRecDepth 100000 in
theorem c_X10_enter {l : Launch} {D : va_G} {B t0 : Nat} (hl9 : l.stackTraces = false) (S : jS) (X9 : jMem) (L : jLg) (hL : LogX D B t0 L X9) (q1 : Nat) (e1 : Nat → Int32) (hq1 : lmt D ≤ q1) (he1 : X9 q1 = some (entC e1)) : jCf l D B t0 yX10_enter cX10_enter 3 none rm_X10_enter [.ref (B + 0), .ref q1] (memG 0 358 D B S X9) (zD D) (f_X10_enter S L e1) rvV (fun (S9 : jSL) M9 => ∃ X1, M9 = memG 0 358 D B S9.1 X1 ∧ LogK D B t0 X9 S9.2 X1) (zD D) := by
  refine jC_of hl9 (me_X10_enter).1 [(0, .ref (B + 0)), (1, .ref q1)] ⟨by decide +kernel, Nat.le_of_ble_eq_true rfl⟩ rfl (fun κ hl hD hB hT X htab hin => ?_)
  subst hl hD hB hT
  have X : jX κ RX10 cX10_enter 3 none := X
  have hK : LogK (kD κ) (kB κ) (kT κ) X9 L X9 := LogK.rf hL
  unfold f_X10_enter
  refine j_aload_n X 0 rfl dX10_enter_0 rfl ?_
  refine g_getf X 5 kf_0 cf_X10 (by decide) fl_X10_47 dX10_enter_1 rfl rfl ?_
  refine j_aload_n X 1 rfl dX10_enter_4 rfl ?_
  refine g_ladd X 0 0 hK ml_X10_314 dX10_enter_5 hq1 he1 (by decide) (Nat.le_of_ble_eq_true rfl) (by decide) (fun X1 hKX1 heX1 v2 => ?_)
  refine j_pop X dX10_enter_8 rfl ?_
  refine j_iconst X (0 : Int32) dX10_enter_9 (by rfl) ?_
  refine j_istore_n X [(2, .int (0 : Int32)), (0, .ref (kB κ + 0)), (1, .ref q1)] dX10_enter_10 rfl (by decide) rfl ?_
  refine j_lv [1, 2, 0] rfl ?_
  refine j_loop (fun (k : jS → Int32 → Option (jR jSL)) => ∀ (S4 : jS) (x5 : Int32), J κ 3 rm_X10_enter (jQf κ rm_X10_enter rvV (fun (S9 : jSL) M9 => ∃ X1, M9 = memG 0 358 (kD κ) (kB κ) S9.1 X1 ∧ LogK (kD κ) (kB κ) (kT κ) X9 S9.2 X1) (zD (kD κ))) (k S4 x5) (memG 0 358 (kD κ) (kB κ) S4 X1) (zD (kD κ)) 0 0 [(0, .ref (kB κ + 0)), (1, .ref q1), (2, .int x5)] 11 []) (fun _ _ => j_none) (fun rec3 hrec3 => ?_) 1000 _ _
  intro S4 x5
  refine j_iload_n X 2 rfl dX10_enter_11 rfl ?_
  refine j_bipush X (20 : Int32) dX10_enter_12 (by rfl) ?_
  refine j_icmp_ge X 41 dX10_enter_14 (by decide) ?_ ?_
  · exact j_vret X dX10_enter_41 ⟨_, rfl, hKX1⟩ (fun _ h => h)
  · refine j_aload_n X 1 rfl dX10_enter_17 rfl ?_
    refine j_iload_n X 2 rfl dX10_enter_18 rfl ?_
    refine j_call0V X 0 0 (c_X1_concerns X.tr S4 X1 (zD (kD κ)) q1 e1 (LogK.low hK hq1) heX1 x5) me_X1_concerns ml_X10_226 iv_X1_concerns cf_X1 dX10_enter_19 ((memG_out (Or.inr (LogK.low hK hq1))).trans heX1) (rest := []) rfl rfl (by decide) (by decide) (Nat.le_of_ble_eq_true rfl) (fun v6 u17 M16 hM15 => ?_)
    subst M16
    refine j_st (st1 := [.int v6]) rfl ?_
    refine j_join (fun k7 => ∀ (S13 : jS), J κ 3 rm_X10_enter (jQf κ rm_X10_enter rvV (fun (S9 : jSL) M9 => ∃ X1, M9 = memG 0 358 (kD κ) (kB κ) S9.1 X1 ∧ LogK (kD κ) (kB κ) (kT κ) X9 S9.2 X1) (zD (kD κ))) (k7 S13) (memG 0 358 (kD κ) (kB κ) S13 X1) (zD (kD κ)) 0 0 [(0, .ref (kB κ + 0)), (1, .ref q1), (2, .int x5)] 35 []) ?_ (fun k7 hk7 => ?_)
    · intro S13
      refine j_iincL X 2 (fun x14 => [(2, .int x14), (0, .ref (kB κ + 0)), (1, .ref q1)]) dX10_enter_35 rfl (by rfl) (by decide) (fun _ => rfl) (fun x14 => ?_)
      refine j_goto X 11 dX10_enter_38 (by decide) ?_
      refine j_lv [1, 2, 0] rfl ?_
      exact hrec3 S13 x14
    · refine j_if_eq X 35 dX10_enter_22 (by decide) ?_ ?_
      · exact hk7 S4
      · refine j_aload_n X 0 rfl dX10_enter_25 rfl ?_
        refine g_getf X 6 kf_0 cf_X10 (by decide) fl_X10_53 dX10_enter_26 rfl rfl ?_
        refine j_iload_n X 2 rfl dX10_enter_29 rfl ?_
        refine g_aald X 8 20 kf_67 rfl rfl dX10_enter_30 rfl rfl (fun h8 => ?_)
        refine j_aload_n X 1 rfl dX10_enter_31 rfl ?_
        refine j_call0V X 0 0 (c_X5_take X.tr S4 X1 (zD (kD κ)) (82 + 12 * x5.toNatClampNeg) (isPast_of h8) q1 e1 (LogK.low hK hq1) heX1) me_X5_take ml_X10_230 iv_X5_take cf_X5 dX10_enter_32 (memG_at (kPast (isPast_of h8)).1) (rest := []) rfl rfl (by decide) (by decide) (Nat.le_of_ble_eq_true rfl) (fun v12 S9 M11 hM10 => ?_)
        subst M11
        refine j_st (st1 := []) rfl ?_
        exact hk7 S9
def f_X10_viewByLog (S : jS) (L : jLg) (p1 : Int32) (p2 : Int32) : Option (jR jS) := jbind (f_X10_checkPerson p1) (fun _ _ => jbind (f_X10_checkFlag p2) (fun _ _ => jbin0 (f_X5_forget S 68) (fun _ S1 => loopK (fun (rec2 : jS → Int32 → Option (jR jS)) (S3 : jS) (x4 : Int32) => (if (Int32.ofNat L.length) ≤ x4 then jbin0 (f_X10_findViews S3 80 p1 30 68) (fun _ S5 => chk (inb p2 8) (some (0, (S5 80 p2.toNatClampNeg), S5))) else chk (inb x4 L.length) (jbin0 (f_X1_concerns S3 (logAt L x4) p1) (fun v11 _ => joinK (fun (S18 : jS) => letE (x4 + (1 : Int32)) fun x19 => rec2 S18 x19) (fun k12 => (if v11 = (0 : Int32) then k12 S3 else chk (inb x4 L.length) (jbin0 (f_X5_take S3 68 (logAt L x4)) (fun _ S14 => k12 S14)))))))) (fun _ _ => none) 1000 S1 (0 : Int32))) (fun t _ => some (t, (0 : Int32), S))) (fun t _ => some (t, (0 : Int32), S))
abbrev rm_X10_viewByLog : Room := { frames := 8, cells := 2, slots := 12, locals := 132 }
set_option maxHeartbeats 4000000 in
set_option maxRecDepth 100000 in
theorem c_X10_viewByLog {l : Launch} {D : va_G} {B t0 : Nat} (hl9 : l.stackTraces = false) (S : jS) (X9 : jMem) (z : Nat → Prop) (L : jLg) (hL : LogX D B t0 L X9) (p1 : Int32) (p2 : Int32) : jCf l D B t0 yX10_viewByLog cX10_viewByLog 4 (some .int) rm_X10_viewByLog [.ref (B + 0), .int p1, .int p2] (memG 0 358 D B S X9) z (f_X10_viewByLog S L p1 p2) rvI (fun S9 M9 => M9 = memG 0 358 D B S9 X9) z := by
  refine jC_of hl9 (me_X10_viewByLog).1 [(0, .ref (B + 0)), (1, .int p1), (2, .int p2)] ⟨by decide +kernel, Nat.le_of_ble_eq_true rfl⟩ rfl (fun κ hl hD hB hT X htab hin => ?_)
  subst hl hD hB hT
  have X : jX κ RX10 cX10_viewByLog 4 (some .int) := X
  unfold f_X10_viewByLog
  refine j_iload_n X 1 rfl dX10_viewByLog_0 rfl ?_
  refine j_callS X 1 6 (c_X10_checkPerson X.tr (memG 0 358 (kD κ) (kB κ) S X9) z p1) me_X10_checkPerson ml_X10_71 st_X10_checkPerson htab dX10_viewByLog_1 (rest := []) rfl rfl (by decide) (by decide) (Nat.le_of_ble_eq_true rfl) (fun t S9 M9 r9 hp9 hr9 => by cases hr9; exact ⟨rfl, hp9⟩) (fun v32 u33 M31 hM30 => ?_)
  subst M31
  refine j_st (st1 := []) rfl ?_
  refine j_iload_n X 2 rfl dX10_viewByLog_4 rfl ?_
  refine j_callS X 0 0 (c_X10_checkFlag X.tr (memG 0 358 (kD κ) (kB κ) S X9) z p2) me_X10_checkFlag ml_X10_175 st_X10_checkFlag htab dX10_viewByLog_5 (rest := []) rfl rfl (by decide) (by decide) (Nat.le_of_ble_eq_true rfl) (fun t S9 M9 r9 hp9 hr9 => by cases hr9; exact ⟨rfl, hp9⟩) (fun v28 u29 M27 hM26 => ?_)
  subst M27
  refine j_st (st1 := []) rfl ?_
  refine j_aload_n X 0 rfl dX10_viewByLog_8 rfl ?_
  refine g_getf X 7 kf_0 cf_X10 (by decide) fl_X10_58 dX10_viewByLog_9 rfl rfl ?_
  refine j_call0V X 0 0 (c_X5_forget X.tr S X9 z 68 isPast_r) me_X5_forget ml_X10_213 iv_X5_forget cf_X5 dX10_viewByLog_12 (memG_at (kPast isPast_r).1) (rest := []) rfl rfl (by decide) (by decide) (Nat.le_of_ble_eq_true rfl) (fun v25 S1 M24 hM23 => ?_)
  subst M24
  refine j_st (st1 := []) rfl ?_
  refine j_iconst X (0 : Int32) dX10_viewByLog_15 (by rfl) ?_
  refine j_istore_n X [(3, .int (0 : Int32)), (0, .ref (kB κ + 0)), (1, .int p1), (2, .int p2)] dX10_viewByLog_16 rfl (by decide) rfl ?_
  refine j_lv [1, 2, 3, 0] rfl ?_
  refine j_loop (fun (k : jS → Int32 → Option (jR jS)) => ∀ (S3 : jS) (x4 : Int32), J κ 4 rm_X10_viewByLog (jQf κ rm_X10_viewByLog rvI (fun S9 M9 => M9 = memG 0 358 (kD κ) (kB κ) S9 X9) z) (k S3 x4) (memG 0 358 (kD κ) (kB κ) S3 X9) z 0 0 [(0, .ref (kB κ + 0)), (1, .int p1), (2, .int p2), (3, .int x4)] 17 []) (fun _ _ => j_none) (fun rec2 hrec2 => ?_) 1000 _ _
  intro S3 x4
  refine j_iload_n X 3 rfl dX10_viewByLog_17 rfl ?_
  refine j_aload_n X 0 rfl dX10_viewByLog_18 rfl ?_
  refine g_getf X 5 kf_0 cf_X10 (by decide) fl_X10_47 dX10_viewByLog_19 rfl rfl ?_
  refine g_lsize X hL ml_X10_216 dX10_viewByLog_22 (by decide) (Nat.le_of_ble_eq_true rfl) ?_
  refine j_icmp_ge X 70 dX10_viewByLog_25 (by decide) ?_ ?_
  · refine j_aload_n X 0 rfl dX10_viewByLog_70 rfl ?_
    refine j_aload_n X 0 rfl dX10_viewByLog_71 rfl ?_
    refine g_getf X 8 kf_0 cf_X10 (by decide) fl_X10_62 dX10_viewByLog_72 rfl rfl ?_
    refine j_iload_n X 1 rfl dX10_viewByLog_75 rfl ?_
    refine j_aload_n X 0 rfl dX10_viewByLog_76 rfl ?_
    refine g_getf X 1 kf_0 cf_X10 (by decide) fl_X10_19 dX10_viewByLog_77 rfl rfl ?_
    refine g_getN X 3 kf_24 cf_X0 (by decide) fn_X10_153 dX10_viewByLog_80 rfl rfl ?_
    refine j_aload_n X 0 rfl dX10_viewByLog_83 rfl ?_
    refine g_getf X 7 kf_0 cf_X10 (by decide) fl_X10_58 dX10_viewByLog_84 rfl rfl ?_
    refine j_call0V X 0 0 (c_X10_findViews X.tr S3 X9 z 80 kf_80 p1 30 kf_30 68 isPast_r) me_X10_findViews ml_X10_167 iv_X10_findViews cf_X10 dX10_viewByLog_87 (memG_at kf_0) (rest := []) rfl rfl (by decide) (by decide) (Nat.le_of_ble_eq_true rfl) (fun v9 S5 M8 hM7 => ?_)
    subst M8
    refine j_st (st1 := []) rfl ?_
    refine j_aload_n X 0 rfl dX10_viewByLog_90 rfl ?_
    refine g_getf X 8 kf_0 cf_X10 (by decide) fl_X10_62 dX10_viewByLog_91 rfl rfl ?_
    refine j_iload_n X 2 rfl dX10_viewByLog_94 rfl ?_
    refine g_iald X 8 kf_80 (by decide) dX10_viewByLog_95 (fun h6 => ?_)
    exact j_iret X dX10_viewByLog_96 rfl (fun _ h => h)
  · refine j_aload_n X 0 rfl dX10_viewByLog_28 rfl ?_
    refine g_getf X 5 kf_0 cf_X10 (by decide) fl_X10_47 dX10_viewByLog_29 rfl rfl ?_
    refine j_iload_n X 3 rfl dX10_viewByLog_32 rfl ?_
    refine g_lget X hL ml_X10_220 dX10_viewByLog_33 (by decide) (Nat.le_of_ble_eq_true rfl) (fun q10 h1q10 h2q10 => ?_)
    refine g_lcast X cl_X10_224 dX10_viewByLog_36 h1q10 h2q10 ?_
    refine j_iload_n X 1 rfl dX10_viewByLog_39 rfl ?_
    refine j_call0V X 0 0 (c_X1_concerns X.tr S3 X9 z q10 (logAt L x4) h1q10 h2q10 p1) me_X1_concerns ml_X10_226 iv_X1_concerns cf_X1 dX10_viewByLog_40 ((memG_out (Or.inr h1q10)).trans h2q10) (rest := []) rfl rfl (by decide) (by decide) (Nat.le_of_ble_eq_true rfl) (fun v11 u22 M21 hM20 => ?_)
    subst M21
    refine j_st (st1 := [.int v11]) rfl ?_
    refine j_join (fun k12 => ∀ (S18 : jS), J κ 4 rm_X10_viewByLog (jQf κ rm_X10_viewByLog rvI (fun S9 M9 => M9 = memG 0 358 (kD κ) (kB κ) S9 X9) z) (k12 S18) (memG 0 358 (kD κ) (kB κ) S18 X9) z 0 0 [(0, .ref (kB κ + 0)), (1, .int p1), (2, .int p2), (3, .int x4)] 64 []) ?_ (fun k12 hk12 => ?_)
    · intro S18
      refine j_iincL X 3 (fun x19 => [(3, .int x19), (0, .ref (kB κ + 0)), (1, .int p1), (2, .int p2)]) dX10_viewByLog_64 rfl (by rfl) (by decide) (fun _ => rfl) (fun x19 => ?_)
      refine j_goto X 17 dX10_viewByLog_67 (by decide) ?_
      refine j_lv [1, 2, 3, 0] rfl ?_
      exact hrec2 S18 x19
    · refine j_if_eq X 64 dX10_viewByLog_43 (by decide) ?_ ?_
      · exact hk12 S3
      · refine j_aload_n X 0 rfl dX10_viewByLog_46 rfl ?_
        refine g_getf X 7 kf_0 cf_X10 (by decide) fl_X10_58 dX10_viewByLog_47 rfl rfl ?_
        refine j_aload_n X 0 rfl dX10_viewByLog_50 rfl ?_
        refine g_getf X 5 kf_0 cf_X10 (by decide) fl_X10_47 dX10_viewByLog_51 rfl rfl ?_
        refine j_iload_n X 3 rfl dX10_viewByLog_54 rfl ?_
        refine g_lget X hL ml_X10_220 dX10_viewByLog_55 (by decide) (Nat.le_of_ble_eq_true rfl) (fun q13 h1q13 h2q13 => ?_)
        refine g_lcast X cl_X10_224 dX10_viewByLog_58 h1q13 h2q13 ?_
        refine j_call0V X 0 0 (c_X5_take X.tr S3 X9 z 68 isPast_r q13 (logAt L x4) h1q13 h2q13) me_X5_take ml_X10_230 iv_X5_take cf_X5 dX10_viewByLog_61 (memG_at (kPast isPast_r).1) (rest := []) rfl rfl (by decide) (by decide) (Nat.le_of_ble_eq_true rfl) (fun v17 S14 M16 hM15 => ?_)
        subst M16
        refine j_st (st1 := []) rfl ?_
        exact hk12 S14
def f_X10_show (S : jS) (L : jLg) (p1 : Int32) (p2 : Int32) : Option (jR jSL) := jbind (f_X10_checkPerson p1) (fun _ _ => jbind (f_X10_checkFlag p2) (fun _ _ => jbind (f_X10_checkLog S L) (fun _ _ => jbin0 (f_X10_viewNow S p1 p2) (fun v1 S2 => jbin0 (f_X10_trialThatShows S2 p1 p2) (fun v3 S4 => jbin0 (f_X10_keeps S4 v3 p1) (fun v6 _ => joinK (fun (x8 : Int32) => jbin0 (f_X10_enter S4 L (ent5 x8 p1 p2 v3 v1)) (fun _ S9 => some (0, v1, (S9.1, S9.2)))) (fun k7 => (if v6 = (0 : Int32) then k7 (0 : Int32) else k7 (1 : Int32))))))) (fun t _ => some (t, (0 : Int32), (S, L)))) (fun t _ => some (t, (0 : Int32), (S, L)))) (fun t _ => some (t, (0 : Int32), (S, L)))
abbrev rm_X10_show : Room := { frames := 8, cells := 5, slots := 623, locals := 222 }
set_option maxHeartbeats 4000000 in
set_option maxRecDepth 100000 in
theorem c_X10_show {l : Launch} {D : va_G} {B t0 : Nat} (hl9 : l.stackTraces = false) (S : jS) (X9 : jMem) (L : jLg) (hL : LogX D B t0 L X9) (p1 : Int32) (p2 : Int32) : jCf l D B t0 yX10_show cX10_show 5 (some .int) rm_X10_show [.ref (B + 0), .int p1, .int p2] (memG 0 358 D B S X9) (zD D) (f_X10_show S L p1 p2) rvI (fun (S9 : jSL) M9 => ∃ X1, M9 = memG 0 358 D B S9.1 X1 ∧ LogK D B t0 X9 S9.2 X1) (zD D) := by
  refine jC_of hl9 (me_X10_show).1 [(0, .ref (B + 0)), (1, .int p1), (2, .int p2)] ⟨by decide +kernel, Nat.le_of_ble_eq_true rfl⟩ rfl (fun κ hl hD hB hT X htab hin => ?_)
  subst hl hD hB hT
  have X : jX κ RX10 cX10_show 5 (some .int) := X
  have hK : LogK (kD κ) (kB κ) (kT κ) X9 L X9 := LogK.rf hL
  unfold f_X10_show
  refine j_iload_n X 1 rfl dX10_show_0 rfl ?_
  refine j_callS X 4 617 (c_X10_checkPerson X.tr (memG 0 358 (kD κ) (kB κ) S X9) (zD (kD κ)) p1) me_X10_checkPerson ml_X10_71 st_X10_checkPerson htab dX10_show_1 (rest := []) rfl rfl (by decide) (by decide) (Nat.le_of_ble_eq_true rfl) (fun t S9 M9 r9 hp9 hr9 => by cases hr9; exact ⟨rfl, _, hp9, hK⟩) (fun v31 u32 M30 hM29 => ?_)
  subst M30
  refine j_st (st1 := []) rfl ?_
  refine j_iload_n X 2 rfl dX10_show_4 rfl ?_
  refine j_callS X 3 611 (c_X10_checkFlag X.tr (memG 0 358 (kD κ) (kB κ) S X9) (zD (kD κ)) p2) me_X10_checkFlag ml_X10_175 st_X10_checkFlag htab dX10_show_5 (rest := []) rfl rfl (by decide) (by decide) (Nat.le_of_ble_eq_true rfl) (fun t S9 M9 r9 hp9 hr9 => by cases hr9; exact ⟨rfl, _, hp9, hK⟩) (fun v27 u28 M26 hM25 => ?_)
  subst M26
  refine j_st (st1 := []) rfl ?_
  refine j_aload_n X 0 rfl dX10_show_8 rfl ?_
  refine j_callV X 2 605 (c_X10_checkLog X.tr S X9 (zD (kD κ)) L hK.1) me_X10_checkLog ml_X10_241 iv_X10_checkLog cf_X10 htab dX10_show_9 (memG_at kf_0) (rest := []) rfl rfl (by decide) (by decide) (Nat.le_of_ble_eq_true rfl) (fun t S9 M9 r9 hp9 hr9 => by cases hr9; exact ⟨rfl, _, hp9, hK⟩) (fun v23 u24 M22 hM21 => ?_)
  subst M22
  refine j_st (st1 := []) rfl ?_
  refine j_aload_n X 0 rfl dX10_show_12 rfl ?_
  refine j_iload_n X 1 rfl dX10_show_13 rfl ?_
  refine j_iload_n X 2 rfl dX10_show_14 rfl ?_
  refine j_call0V X 2 605 (c_X10_viewNow X.tr S X9 (zD (kD κ)) p1 p2) me_X10_viewNow ml_X10_210 iv_X10_viewNow cf_X10 dX10_show_15 (memG_at kf_0) (rest := []) rfl rfl (by decide) (by decide) (Nat.le_of_ble_eq_true rfl) (fun v1 S2 M20 hM19 => ?_)
  subst M20
  refine j_st (st1 := [.int v1]) rfl ?_
  refine j_istore_n X [(3, .int v1), (0, .ref (kB κ + 0)), (1, .int p1), (2, .int p2)] dX10_show_18 rfl (by decide) rfl ?_
  refine j_aload_n X 1 rfl dX10_show_19 rfl ?_
  refine j_iload_n X 2 rfl dX10_show_20 rfl ?_
  refine j_iload_n X 3 rfl dX10_show_21 rfl ?_
  refine j_call0V X 2 605 (c_X10_trialThatShows X.tr S2 X9 (zD (kD κ)) p1 p2) me_X10_trialThatShows ml_X10_244 iv_X10_trialThatShows cf_X10 dX10_show_22 (memG_at kf_0) (rest := []) rfl rfl (by decide) (by decide) (Nat.le_of_ble_eq_true rfl) (fun v3 S4 M18 hM17 => ?_)
  subst M18
  refine j_st (st1 := [.int v3]) rfl ?_
  refine j_istore X [(4, .int v3), (3, .int v1), (0, .ref (kB κ + 0)), (1, .int p1), (2, .int p2)] dX10_show_25 (by decide) rfl ?_
  refine j_aload_n X 2 rfl dX10_show_27 rfl ?_
  refine g_lnew X 1 600 hK cl_X10_224 dX10_show_28 (by decide) (fun q5 hq5 hKq5 => ?_)
  refine j_dup X dX10_show_31 rfl ?_
  refine j_aload_n X 2 rfl dX10_show_32 rfl ?_
  refine j_iload X 0 rfl dX10_show_33 ?_
  refine j_iload_n X 3 rfl dX10_show_35 rfl ?_
  refine j_call0V X 1 600 (c_X10_keeps X.tr S4 (jUp X9 q5 (entC (fun _ => 0))) (zD (kD κ)) v3 p1) me_X10_keeps ml_X10_247 iv_X10_keeps cf_X10 dX10_show_36 (memG_at kf_0) (rest := [.ref q5, .ref q5, .ref (kB κ + 0)]) rfl rfl (by decide) (by decide) (Nat.le_of_ble_eq_true rfl) (fun v6 u16 M15 hM14 => ?_)
  subst M15
  refine j_st (st1 := [.int v6, .ref q5, .ref q5, .ref (kB κ + 0)]) rfl ?_
  refine j_join (fun k7 => ∀ (x8 : Int32), J κ 5 rm_X10_show (jQf κ rm_X10_show rvI (fun (S9 : jSL) M9 => ∃ X1, M9 = memG 0 358 (kD κ) (kB κ) S9.1 X1 ∧ LogK (kD κ) (kB κ) (kT κ) X9 S9.2 X1) (zD (kD κ))) (k7 x8) (memG 0 358 (kD κ) (kB κ) S4 (jUp X9 q5 (entC (fun _ => 0)))) (zD (kD κ)) 1 600 [(1, .int p1), (2, .int p2), (3, .int v1), (4, .int v3)] 47 [.int x8, .ref q5, .ref q5, .ref (kB κ + 0)]) ?_ (fun k7 hk7 => ?_)
  · intro x8
    refine j_iload_n X 0 rfl dX10_show_47 rfl ?_
    refine j_iload_n X 1 rfl dX10_show_48 rfl ?_
    refine j_iload X 3 rfl dX10_show_49 ?_
    refine j_iload_n X 2 rfl dX10_show_51 rfl ?_
    refine g_linit X ml_X10_250 dX10_show_52 (LogK.low hK hq5) (by decide) (Nat.le_of_ble_eq_true rfl) ?_
    refine j_call0V X 0 0 (c_X10_enter X.tr S4 (jUp X9 q5 (entC (ent5 x8 p1 p2 v3 v1))) L ((hKq5 _).1) q5 (ent5 x8 p1 p2 v3 v1) hq5 jUp_eq) me_X10_enter ml_X10_253 iv_X10_enter cf_X10 dX10_show_55 (memG_at kf_0) (rest := []) rfl rfl (by decide) (by decide) (Nat.le_of_ble_eq_true rfl) (fun v13 S9 M12 hM11 => ?_)
    obtain ⟨X10, rfl, hKX101⟩ := hM11
    have hKX10 := ((hKq5 _)).trans hKX101
    refine j_st (st1 := []) rfl ?_
    refine j_iload_n X 2 rfl dX10_show_58 rfl ?_
    exact j_iret X dX10_show_59 ⟨_, rfl, hKX10⟩ (fun _ h => h)
  · refine j_if_eq X 46 dX10_show_39 (by decide) ?_ ?_
    · refine j_iconst X (0 : Int32) dX10_show_46 (by rfl) ?_
      refine j_lv [3, 4, 1, 0] rfl ?_
      exact hk7 (0 : Int32)
    · refine j_iconst X (1 : Int32) dX10_show_42 (by rfl) ?_
      refine j_goto X 47 dX10_show_43 (by decide) ?_
      refine j_lv [3, 4, 1, 0] rfl ?_
      exact hk7 (1 : Int32)
def f_X10_beginAnew (S : jS) (L : jLg) (p1 : Int32) : Option (jR jSL) := jbind (f_X10_checkTrial p1) (fun _ _ => jbind (f_X10_checkNotHeld S p1) (fun _ _ => jbind (f_X10_checkLog S L) (fun _ _ => loopK (fun (rec1 : Int32 → Int32 → Option (jR jSL)) (x2 : Int32) (x3 : Int32) => (if (20 : Int32) ≤ x3 then chk (inb p1 6) (letE (jset S (346 + 2 * p1.toNatClampNeg) 2 (-1 : Int32)) fun S5 => jbin0 (f_X10_enter S5 L (ent5 (6 : Int32) (-1 : Int32) (-1 : Int32) p1 (-1 : Int32))) (fun _ S7 => some (0, x2, (S7.1, S7.2)))) else chk (inb x3 20) (chk (inb p1 6) (joinK (fun (x15 : Int32) => letE (x3 + (1 : Int32)) fun x16 => rec1 x15 x16) (fun k13 => (if (S ((82 + 12 * x3.toNatClampNeg) + 1) p1.toNatClampNeg) = (-1 : Int32) then k13 x2 else letE (x2 + (1 : Int32)) fun x14 => k13 x14)))))) (fun _ _ => none) 1000 (0 : Int32) (0 : Int32)) (fun t _ => some (t, (0 : Int32), (S, L)))) (fun t _ => some (t, (0 : Int32), (S, L)))) (fun t _ => some (t, (0 : Int32), (S, L)))
abbrev rm_X10_beginAnew : Room := { frames := 8, cells := 5, slots := 623, locals := 222 }
set_option maxHeartbeats 4000000 in
set_option maxRecDepth 100000 in
theorem c_X10_beginAnew {l : Launch} {D : va_G} {B t0 : Nat} (hl9 : l.stackTraces = false) (S : jS) (X9 : jMem) (L : jLg) (hL : LogX D B t0 L X9) (p1 : Int32) : jCf l D B t0 yX10_beginAnew cX10_beginAnew 4 (some .int) rm_X10_beginAnew [.ref (B + 0), .int p1] (memG 0 358 D B S X9) (zD D) (f_X10_beginAnew S L p1) rvI (fun (S9 : jSL) M9 => ∃ X1, M9 = memG 0 358 D B S9.1 X1 ∧ LogK D B t0 X9 S9.2 X1) (zD D) := by
  refine jC_of hl9 (me_X10_beginAnew).1 [(0, .ref (B + 0)), (1, .int p1)] ⟨by decide +kernel, Nat.le_of_ble_eq_true rfl⟩ rfl (fun κ hl hD hB hT X htab hin => ?_)
  subst hl hD hB hT
  have X : jX κ RX10 cX10_beginAnew 4 (some .int) := X
  have hK : LogK (kD κ) (kB κ) (kT κ) X9 L X9 := LogK.rf hL
  unfold f_X10_beginAnew
  refine j_iload_n X 1 rfl dX10_beginAnew_0 rfl ?_
  refine j_callS X 4 617 (c_X10_checkTrial X.tr (memG 0 358 (kD κ) (kB κ) S X9) (zD (kD κ)) p1) me_X10_checkTrial ml_X10_256 st_X10_checkTrial htab dX10_beginAnew_1 (rest := []) rfl rfl (by decide) (by decide) (Nat.le_of_ble_eq_true rfl) (fun t S9 M9 r9 hp9 hr9 => by cases hr9; exact ⟨rfl, _, hp9, hK⟩) (fun v28 u29 M27 hM26 => ?_)
  subst M27
  refine j_st (st1 := []) rfl ?_
  refine j_aload_n X 0 rfl dX10_beginAnew_4 rfl ?_
  refine j_iload_n X 1 rfl dX10_beginAnew_5 rfl ?_
  refine j_callV X 3 611 (c_X10_checkNotHeld X.tr S X9 (zD (kD κ)) p1) me_X10_checkNotHeld ml_X10_259 iv_X10_checkNotHeld cf_X10 htab dX10_beginAnew_6 (memG_at kf_0) (rest := []) rfl rfl (by decide) (by decide) (Nat.le_of_ble_eq_true rfl) (fun t S9 M9 r9 hp9 hr9 => by cases hr9; exact ⟨rfl, _, hp9, hK⟩) (fun v24 u25 M23 hM22 => ?_)
  subst M23
  refine j_st (st1 := []) rfl ?_
  refine j_aload_n X 0 rfl dX10_beginAnew_9 rfl ?_
  refine j_callV X 2 605 (c_X10_checkLog X.tr S X9 (zD (kD κ)) L hK.1) me_X10_checkLog ml_X10_241 iv_X10_checkLog cf_X10 htab dX10_beginAnew_10 (memG_at kf_0) (rest := []) rfl rfl (by decide) (by decide) (Nat.le_of_ble_eq_true rfl) (fun t S9 M9 r9 hp9 hr9 => by cases hr9; exact ⟨rfl, _, hp9, hK⟩) (fun v20 u21 M19 hM18 => ?_)
  subst M19
  refine j_st (st1 := []) rfl ?_
  refine j_iconst X (0 : Int32) dX10_beginAnew_13 (by rfl) ?_
  refine j_istore_n X [(2, .int (0 : Int32)), (0, .ref (kB κ + 0)), (1, .int p1)] dX10_beginAnew_14 rfl (by decide) rfl ?_
  refine j_iconst X (0 : Int32) dX10_beginAnew_15 (by rfl) ?_
  refine j_istore_n X [(3, .int (0 : Int32)), (2, .int (0 : Int32)), (0, .ref (kB κ + 0)), (1, .int p1)] dX10_beginAnew_16 rfl (by decide) rfl ?_
  refine j_lv [2, 3, 1, 0] rfl ?_
  refine j_loop (fun (k : Int32 → Int32 → Option (jR jSL)) => ∀ (x2 : Int32) (x3 : Int32), J κ 4 rm_X10_beginAnew (jQf κ rm_X10_beginAnew rvI (fun (S9 : jSL) M9 => ∃ X1, M9 = memG 0 358 (kD κ) (kB κ) S9.1 X1 ∧ LogK (kD κ) (kB κ) (kT κ) X9 S9.2 X1) (zD (kD κ))) (k x2 x3) (memG 0 358 (kD κ) (kB κ) S X9) (zD (kD κ)) 2 605 [(0, .ref (kB κ + 0)), (1, .int p1), (2, .int x2), (3, .int x3)] 17 []) (fun _ _ => j_none) (fun rec1 hrec1 => ?_) 1000 _ _
  intro x2 x3
  refine j_iload_n X 3 rfl dX10_beginAnew_17 rfl ?_
  refine j_bipush X (20 : Int32) dX10_beginAnew_18 (by rfl) ?_
  refine j_icmp_ge X 47 dX10_beginAnew_20 (by decide) ?_ ?_
  · refine j_aload_n X 0 rfl dX10_beginAnew_47 rfl ?_
    refine g_getf X 4 kf_0 cf_X10 (by decide) fl_X10_40 dX10_beginAnew_48 rfl rfl ?_
    refine j_iload_n X 1 rfl dX10_beginAnew_51 rfl ?_
    refine g_aald X 7 6 kf_65 rfl rfl dX10_beginAnew_52 rfl rfl (fun h4 => ?_)
    refine j_iconst X (-1 : Int32) dX10_beginAnew_53 (by rfl) ?_
    refine g_putN X 2 (kTrial (isTrial_of h4)).1 cf_X9 (by decide) fn_X10_275 dX10_beginAnew_54 rfl rfl rfl rfl (Nat.le_of_ble_eq_true rfl) rfl (fun S5 => ?_)
    refine j_aload_n X 0 rfl dX10_beginAnew_57 rfl ?_
    refine g_lnew X 1 600 hK cl_X10_224 dX10_beginAnew_58 (by decide) (fun q6 hq6 hKq6 => ?_)
    refine j_dup X dX10_beginAnew_61 rfl ?_
    refine j_bipush X (6 : Int32) dX10_beginAnew_62 (by rfl) ?_
    refine j_iconst X (-1 : Int32) dX10_beginAnew_64 (by rfl) ?_
    refine j_iconst X (-1 : Int32) dX10_beginAnew_65 (by rfl) ?_
    refine j_iload_n X 1 rfl dX10_beginAnew_66 rfl ?_
    refine j_iconst X (-1 : Int32) dX10_beginAnew_67 (by rfl) ?_
    refine g_linit X ml_X10_250 dX10_beginAnew_68 (LogK.low hK hq6) (by decide) (Nat.le_of_ble_eq_true rfl) ?_
    refine j_call0V X 0 0 (c_X10_enter X.tr S5 (jUp X9 q6 (entC (ent5 (6 : Int32) (-1 : Int32) (-1 : Int32) p1 (-1 : Int32)))) L ((hKq6 _).1) q6 (ent5 (6 : Int32) (-1 : Int32) (-1 : Int32) p1 (-1 : Int32)) hq6 jUp_eq) me_X10_enter ml_X10_253 iv_X10_enter cf_X10 dX10_beginAnew_71 (memG_at kf_0) (rest := []) rfl rfl (by decide) (by decide) (Nat.le_of_ble_eq_true rfl) (fun v11 S7 M10 hM9 => ?_)
    obtain ⟨X8, rfl, hKX81⟩ := hM9
    have hKX8 := ((hKq6 _)).trans hKX81
    refine j_st (st1 := []) rfl ?_
    refine j_iload_n X 2 rfl dX10_beginAnew_74 rfl ?_
    exact j_iret X dX10_beginAnew_75 ⟨_, rfl, hKX8⟩ (fun _ h => h)
  · refine j_aload_n X 0 rfl dX10_beginAnew_23 rfl ?_
    refine g_getf X 6 kf_0 cf_X10 (by decide) fl_X10_53 dX10_beginAnew_24 rfl rfl ?_
    refine j_iload_n X 3 rfl dX10_beginAnew_27 rfl ?_
    refine g_aald X 8 20 kf_67 rfl rfl dX10_beginAnew_28 rfl rfl (fun h12 => ?_)
    refine g_getN X 0 (kPast (isPast_of h12)).1 cf_X5 (by decide) fn_X10_278 dX10_beginAnew_29 rfl rfl ?_
    refine j_iload_n X 1 rfl dX10_beginAnew_32 rfl ?_
    refine g_iald X 6 (kPast (isPast_of h12)).2.1 (by decide) dX10_beginAnew_33 (fun h17 => ?_)
    refine j_iconst X (-1 : Int32) dX10_beginAnew_34 (by rfl) ?_
    refine j_join (fun k13 => ∀ (x15 : Int32), J κ 4 rm_X10_beginAnew (jQf κ rm_X10_beginAnew rvI (fun (S9 : jSL) M9 => ∃ X1, M9 = memG 0 358 (kD κ) (kB κ) S9.1 X1 ∧ LogK (kD κ) (kB κ) (kT κ) X9 S9.2 X1) (zD (kD κ))) (k13 x15) (memG 0 358 (kD κ) (kB κ) S X9) (zD (kD κ)) 2 605 [(0, .ref (kB κ + 0)), (1, .int p1), (2, .int x15), (3, .int x3)] 41 []) ?_ (fun k13 hk13 => ?_)
    · intro x15
      refine j_iincL X 3 (fun x16 => [(3, .int x16), (0, .ref (kB κ + 0)), (1, .int p1), (2, .int x15)]) dX10_beginAnew_41 rfl (by rfl) (by decide) (fun _ => rfl) (fun x16 => ?_)
      refine j_goto X 17 dX10_beginAnew_44 (by decide) ?_
      refine j_lv [1, 2, 3, 0] rfl ?_
      exact hrec1 x15 x16
    · refine j_icmp_eq X 41 dX10_beginAnew_35 (by decide) ?_ ?_
      · exact hk13 x2
      · refine j_iincL X 2 (fun x14 => [(2, .int x14), (0, .ref (kB κ + 0)), (1, .int p1), (3, .int x3)]) dX10_beginAnew_38 rfl (by rfl) (by decide) (fun _ => rfl) (fun x14 => ?_)
        refine j_lv [1, 2, 0, 3] rfl ?_
        exact hk13 x14
def f_X10_hold (S : jS) (L : jLg) (p1 : Int32) (p2 : Int32) : Option (jR jSL) := jbind (f_X10_checkPerson p1) (fun _ _ => jbind (f_X10_checkFlag p2) (fun _ _ => chk (inb p1 20) (chk (inb p2 8) (jbin0 (f_X10_hasBit ((S ((82 + 12 * p1.toNatClampNeg) + 10) p2.toNatClampNeg)) (6 : Int32)) (fun v2 _ => (if v2 = (0 : Int32) then jbind (f_X10_checkLog S L) (fun _ _ => jbin0 (f_X10_viewNow S p1 p2) (fun v3 S4 => jbin0 (f_X10_enter S4 L (ent5 (2 : Int32) p1 p2 (-1 : Int32) v3)) (fun _ S6 => some (0, v3, (S6.1, S6.2))))) (fun t _ => some (t, (0 : Int32), (S, L))) else some (2, (0 : Int32), (S, L))))))) (fun t _ => some (t, (0 : Int32), (S, L)))) (fun t _ => some (t, (0 : Int32), (S, L)))
abbrev rm_X10_hold : Room := { frames := 8, cells := 6, slots := 629, locals := 222 }
set_option maxHeartbeats 4000000 in
set_option maxRecDepth 100000 in
theorem c_X10_hold {l : Launch} {D : va_G} {B t0 : Nat} (hl9 : l.stackTraces = false) (S : jS) (X9 : jMem) (L : jLg) (hL : LogX D B t0 L X9) (p1 : Int32) (p2 : Int32) : jCf l D B t0 yX10_hold cX10_hold 4 (some .int) rm_X10_hold [.ref (B + 0), .int p1, .int p2] (memG 0 358 D B S X9) (zD D) (f_X10_hold S L p1 p2) rvI (fun (S9 : jSL) M9 => ∃ X1, M9 = memG 0 358 D B S9.1 X1 ∧ LogK D B t0 X9 S9.2 X1) (zD D) := by
  refine jC_of hl9 (me_X10_hold).1 [(0, .ref (B + 0)), (1, .int p1), (2, .int p2)] ⟨by decide +kernel, Nat.le_of_ble_eq_true rfl⟩ rfl (fun κ hl hD hB hT X htab hin => ?_)
  subst hl hD hB hT
  have X : jX κ RX10 cX10_hold 4 (some .int) := X
  have hK : LogK (kD κ) (kB κ) (kT κ) X9 L X9 := LogK.rf hL
  unfold f_X10_hold
  refine j_iload_n X 1 rfl dX10_hold_0 rfl ?_
  refine j_callS X 5 623 (c_X10_checkPerson X.tr (memG 0 358 (kD κ) (kB κ) S X9) (zD (kD κ)) p1) me_X10_checkPerson ml_X10_71 st_X10_checkPerson htab dX10_hold_1 (rest := []) rfl rfl (by decide) (by decide) (Nat.le_of_ble_eq_true rfl) (fun t S9 M9 r9 hp9 hr9 => by cases hr9; exact ⟨rfl, _, hp9, hK⟩) (fun v27 u28 M26 hM25 => ?_)
  subst M26
  refine j_st (st1 := []) rfl ?_
  refine j_iload_n X 2 rfl dX10_hold_4 rfl ?_
  refine j_callS X 4 617 (c_X10_checkFlag X.tr (memG 0 358 (kD κ) (kB κ) S X9) (zD (kD κ)) p2) me_X10_checkFlag ml_X10_175 st_X10_checkFlag htab dX10_hold_5 (rest := []) rfl rfl (by decide) (by decide) (Nat.le_of_ble_eq_true rfl) (fun t S9 M9 r9 hp9 hr9 => by cases hr9; exact ⟨rfl, _, hp9, hK⟩) (fun v23 u24 M22 hM21 => ?_)
  subst M22
  refine j_st (st1 := []) rfl ?_
  refine j_aload_n X 0 rfl dX10_hold_8 rfl ?_
  refine g_getf X 6 kf_0 cf_X10 (by decide) fl_X10_53 dX10_hold_9 rfl rfl ?_
  refine j_iload_n X 1 rfl dX10_hold_12 rfl ?_
  refine g_aald X 8 20 kf_67 rfl rfl dX10_hold_13 rfl rfl (fun h1 => ?_)
  refine g_getN X 3 (kPast (isPast_of h1)).1 cf_X5 (by decide) fn_X10_281 dX10_hold_14 rfl rfl ?_
  refine j_iload_n X 2 rfl dX10_hold_17 rfl ?_
  refine g_iald X 8 (kPast (isPast_of h1)).2.2.2.2.1 (by decide) dX10_hold_18 (fun h20 => ?_)
  refine j_bipush X (6 : Int32) dX10_hold_19 (by rfl) ?_
  refine j_call0S X 4 617 (c_X10_hasBit X.tr (memG 0 358 (kD κ) (kB κ) S X9) (zD (kD κ)) ((S ((82 + 12 * p1.toNatClampNeg) + 10) p2.toNatClampNeg)) (6 : Int32)) me_X10_hasBit ml_X10_93 st_X10_hasBit dX10_hold_21 (rest := []) rfl rfl (by decide) (by decide) (Nat.le_of_ble_eq_true rfl) (fun v2 u19 M18 hM17 => ?_)
  subst M18
  refine j_st (st1 := [.int v2]) rfl ?_
  refine j_if_eq X 38 dX10_hold_24 (by decide) ?_ ?_
  · refine j_aload_n X 0 rfl dX10_hold_38 rfl ?_
    refine j_callV X 3 611 (c_X10_checkLog X.tr S X9 (zD (kD κ)) L hK.1) me_X10_checkLog ml_X10_241 iv_X10_checkLog cf_X10 htab dX10_hold_39 (memG_at kf_0) (rest := []) rfl rfl (by decide) (by decide) (Nat.le_of_ble_eq_true rfl) (fun t S9 M9 r9 hp9 hr9 => by cases hr9; exact ⟨rfl, _, hp9, hK⟩) (fun v15 u16 M14 hM13 => ?_)
    subst M14
    refine j_st (st1 := []) rfl ?_
    refine j_aload_n X 0 rfl dX10_hold_42 rfl ?_
    refine j_iload_n X 1 rfl dX10_hold_43 rfl ?_
    refine j_iload_n X 2 rfl dX10_hold_44 rfl ?_
    refine j_call0V X 3 611 (c_X10_viewNow X.tr S X9 (zD (kD κ)) p1 p2) me_X10_viewNow ml_X10_210 iv_X10_viewNow cf_X10 dX10_hold_45 (memG_at kf_0) (rest := []) rfl rfl (by decide) (by decide) (Nat.le_of_ble_eq_true rfl) (fun v3 S4 M12 hM11 => ?_)
    subst M12
    refine j_st (st1 := [.int v3]) rfl ?_
    refine j_istore_n X [(3, .int v3), (0, .ref (kB κ + 0)), (1, .int p1), (2, .int p2)] dX10_hold_48 rfl (by decide) rfl ?_
    refine j_aload_n X 1 rfl dX10_hold_49 rfl ?_
    refine g_lnew X 2 606 hK cl_X10_224 dX10_hold_50 (by decide) (fun q5 hq5 hKq5 => ?_)
    refine j_dup X dX10_hold_53 rfl ?_
    refine j_iconst X (2 : Int32) dX10_hold_54 (by rfl) ?_
    refine j_iload_n X 2 rfl dX10_hold_55 rfl ?_
    refine j_iload_n X 3 rfl dX10_hold_56 rfl ?_
    refine j_iconst X (-1 : Int32) dX10_hold_57 (by rfl) ?_
    refine j_iload_n X 0 rfl dX10_hold_58 rfl ?_
    refine g_linit X ml_X10_250 dX10_hold_59 (LogK.low hK hq5) (by decide) (Nat.le_of_ble_eq_true rfl) ?_
    refine j_call0V X 1 6 (c_X10_enter X.tr S4 (jUp X9 q5 (entC (ent5 (2 : Int32) p1 p2 (-1 : Int32) v3))) L ((hKq5 _).1) q5 (ent5 (2 : Int32) p1 p2 (-1 : Int32) v3) hq5 jUp_eq) me_X10_enter ml_X10_253 iv_X10_enter cf_X10 dX10_hold_62 (memG_at kf_0) (rest := []) rfl rfl (by decide) (by decide) (Nat.le_of_ble_eq_true rfl) (fun v10 S6 M9 hM8 => ?_)
    obtain ⟨X7, rfl, hKX71⟩ := hM8
    have hKX7 := ((hKq5 _)).trans hKX71
    refine j_st (st1 := []) rfl ?_
    refine j_iload_n X 0 rfl dX10_hold_65 rfl ?_
    exact j_iret X dX10_hold_66 ⟨_, rfl, hKX7⟩ (fun _ h => h)
  · exact j_throwW X th_X10_2_114_118 sr_X10_284 htab dX10_hold_27 dX10_hold_30 dX10_hold_31 dX10_hold_34 dX10_hold_37 (by decide) (by decide) ⟨_, rfl, hK⟩
def f_X10_release (S : jS) (L : jLg) (p1 : Int32) (p2 : Int32) : Option (jR jSL) := jbind (f_X10_checkPerson p1) (fun _ _ => jbind (f_X10_checkFlag p2) (fun _ _ => chk (inb p1 20) (chk (inb p2 8) (jbin0 (f_X10_hasBit ((S ((82 + 12 * p1.toNatClampNeg) + 10) p2.toNatClampNeg)) (6 : Int32)) (fun v2 _ => (if v2 = (0 : Int32) then some (2, (0 : Int32), (S, L)) else jbind (f_X10_checkLog S L) (fun _ _ => jbin0 (f_X10_enter S L (ent5 (3 : Int32) p1 p2 (-1 : Int32) (-1 : Int32))) (fun _ S4 => jbin0 (f_X10_viewNow S4.1 p1 p2) (fun v6 S7 => some (0, v6, (S7, S4.2))))) (fun t _ => some (t, (0 : Int32), (S, L)))))))) (fun t _ => some (t, (0 : Int32), (S, L)))) (fun t _ => some (t, (0 : Int32), (S, L)))
abbrev rm_X10_release : Room := { frames := 8, cells := 6, slots := 629, locals := 222 }
set_option maxHeartbeats 4000000 in
set_option maxRecDepth 100000 in
theorem c_X10_release {l : Launch} {D : va_G} {B t0 : Nat} (hl9 : l.stackTraces = false) (S : jS) (X9 : jMem) (L : jLg) (hL : LogX D B t0 L X9) (p1 : Int32) (p2 : Int32) : jCf l D B t0 yX10_release cX10_release 3 (some .int) rm_X10_release [.ref (B + 0), .int p1, .int p2] (memG 0 358 D B S X9) (zD D) (f_X10_release S L p1 p2) rvI (fun (S9 : jSL) M9 => ∃ X1, M9 = memG 0 358 D B S9.1 X1 ∧ LogK D B t0 X9 S9.2 X1) (zD D) := by
  refine jC_of hl9 (me_X10_release).1 [(0, .ref (B + 0)), (1, .int p1), (2, .int p2)] ⟨by decide +kernel, Nat.le_of_ble_eq_true rfl⟩ rfl (fun κ hl hD hB hT X htab hin => ?_)
  subst hl hD hB hT
  have X : jX κ RX10 cX10_release 3 (some .int) := X
  have hK : LogK (kD κ) (kB κ) (kT κ) X9 L X9 := LogK.rf hL
  unfold f_X10_release
  refine j_iload_n X 1 rfl dX10_release_0 rfl ?_
  refine j_callS X 5 623 (c_X10_checkPerson X.tr (memG 0 358 (kD κ) (kB κ) S X9) (zD (kD κ)) p1) me_X10_checkPerson ml_X10_71 st_X10_checkPerson htab dX10_release_1 (rest := []) rfl rfl (by decide) (by decide) (Nat.le_of_ble_eq_true rfl) (fun t S9 M9 r9 hp9 hr9 => by cases hr9; exact ⟨rfl, _, hp9, hK⟩) (fun v27 u28 M26 hM25 => ?_)
  subst M26
  refine j_st (st1 := []) rfl ?_
  refine j_iload_n X 2 rfl dX10_release_4 rfl ?_
  refine j_callS X 4 617 (c_X10_checkFlag X.tr (memG 0 358 (kD κ) (kB κ) S X9) (zD (kD κ)) p2) me_X10_checkFlag ml_X10_175 st_X10_checkFlag htab dX10_release_5 (rest := []) rfl rfl (by decide) (by decide) (Nat.le_of_ble_eq_true rfl) (fun t S9 M9 r9 hp9 hr9 => by cases hr9; exact ⟨rfl, _, hp9, hK⟩) (fun v23 u24 M22 hM21 => ?_)
  subst M22
  refine j_st (st1 := []) rfl ?_
  refine j_aload_n X 0 rfl dX10_release_8 rfl ?_
  refine g_getf X 6 kf_0 cf_X10 (by decide) fl_X10_53 dX10_release_9 rfl rfl ?_
  refine j_iload_n X 1 rfl dX10_release_12 rfl ?_
  refine g_aald X 8 20 kf_67 rfl rfl dX10_release_13 rfl rfl (fun h1 => ?_)
  refine g_getN X 3 (kPast (isPast_of h1)).1 cf_X5 (by decide) fn_X10_281 dX10_release_14 rfl rfl ?_
  refine j_iload_n X 2 rfl dX10_release_17 rfl ?_
  refine g_iald X 8 (kPast (isPast_of h1)).2.2.2.2.1 (by decide) dX10_release_18 (fun h20 => ?_)
  refine j_bipush X (6 : Int32) dX10_release_19 (by rfl) ?_
  refine j_call0S X 4 617 (c_X10_hasBit X.tr (memG 0 358 (kD κ) (kB κ) S X9) (zD (kD κ)) ((S ((82 + 12 * p1.toNatClampNeg) + 10) p2.toNatClampNeg)) (6 : Int32)) me_X10_hasBit ml_X10_93 st_X10_hasBit dX10_release_21 (rest := []) rfl rfl (by decide) (by decide) (Nat.le_of_ble_eq_true rfl) (fun v2 u19 M18 hM17 => ?_)
  subst M18
  refine j_st (st1 := [.int v2]) rfl ?_
  refine j_if_ne X 38 dX10_release_24 (by decide) ?_ ?_
  · exact j_throwW X th_X10_2_114_118 sr_X10_286 htab dX10_release_27 dX10_release_30 dX10_release_31 dX10_release_34 dX10_release_37 (by decide) (by decide) ⟨_, rfl, hK⟩
  · refine j_aload_n X 0 rfl dX10_release_38 rfl ?_
    refine j_callV X 3 611 (c_X10_checkLog X.tr S X9 (zD (kD κ)) L hK.1) me_X10_checkLog ml_X10_241 iv_X10_checkLog cf_X10 htab dX10_release_39 (memG_at kf_0) (rest := []) rfl rfl (by decide) (by decide) (Nat.le_of_ble_eq_true rfl) (fun t S9 M9 r9 hp9 hr9 => by cases hr9; exact ⟨rfl, _, hp9, hK⟩) (fun v15 u16 M14 hM13 => ?_)
    subst M14
    refine j_st (st1 := []) rfl ?_
    refine j_aload_n X 0 rfl dX10_release_42 rfl ?_
    refine g_lnew X 2 606 hK cl_X10_224 dX10_release_43 (by decide) (fun q3 hq3 hKq3 => ?_)
    refine j_dup X dX10_release_46 rfl ?_
    refine j_iconst X (3 : Int32) dX10_release_47 (by rfl) ?_
    refine j_iload_n X 1 rfl dX10_release_48 rfl ?_
    refine j_iload_n X 2 rfl dX10_release_49 rfl ?_
    refine j_iconst X (-1 : Int32) dX10_release_50 (by rfl) ?_
    refine j_iconst X (-1 : Int32) dX10_release_51 (by rfl) ?_
    refine g_linit X ml_X10_250 dX10_release_52 (LogK.low hK hq3) (by decide) (Nat.le_of_ble_eq_true rfl) ?_
    refine j_call0V X 1 6 (c_X10_enter X.tr S (jUp X9 q3 (entC (ent5 (3 : Int32) p1 p2 (-1 : Int32) (-1 : Int32)))) L ((hKq3 _).1) q3 (ent5 (3 : Int32) p1 p2 (-1 : Int32) (-1 : Int32)) hq3 jUp_eq) me_X10_enter ml_X10_253 iv_X10_enter cf_X10 dX10_release_55 (memG_at kf_0) (rest := []) rfl rfl (by decide) (by decide) (Nat.le_of_ble_eq_true rfl) (fun v12 S4 M11 hM10 => ?_)
    obtain ⟨X5, rfl, hKX51⟩ := hM10
    have hKX5 := ((hKq3 _)).trans hKX51
    refine j_st (st1 := []) rfl ?_
    refine j_aload_n X 0 rfl dX10_release_58 rfl ?_
    refine j_iload_n X 1 rfl dX10_release_59 rfl ?_
    refine j_iload_n X 2 rfl dX10_release_60 rfl ?_
    refine j_call0V X 1 6 (c_X10_viewNow X.tr S4.1 X5 (zD (kD κ)) p1 p2) me_X10_viewNow ml_X10_210 iv_X10_viewNow cf_X10 dX10_release_61 (memG_at kf_0) (rest := []) rfl rfl (by decide) (by decide) (Nat.le_of_ble_eq_true rfl) (fun v6 S7 M9 hM8 => ?_)
    subst M9
    refine j_st (st1 := [.int v6]) rfl ?_
    exact j_iret X dX10_release_64 ⟨_, rfl, hKX5⟩ (fun _ h => h)
def f_X10_holdTrial (S : jS) (L : jLg) (p1 : Int32) : Option (jR jSL) := jbind (f_X10_checkTrial p1) (fun _ _ => jbind (f_X10_checkNotHeld S p1) (fun _ _ => jbind (f_X10_checkLog S L) (fun _ _ => chk (inb p1 6) (letE (jset S (346 + 2 * p1.toNatClampNeg) 3 (1 : Int32)) fun S2 => jbin0 (f_X10_enter S2 L (ent5 (4 : Int32) (-1 : Int32) (-1 : Int32) p1 (-1 : Int32))) (fun _ S4 => loopK (fun (rec6 : Int32 → Int32 → Option (jR jSL)) (x7 : Int32) (x8 : Int32) => (if (20 : Int32) ≤ x8 then some (0, x7, (S4.1, S4.2)) else chk (inb x8 20) (jbin0 (f_X5_countHeldBy S4.1 (82 + 12 * x8.toNatClampNeg) p1) (fun v10 _ => letE (x7 + v10) fun x11 => letE (x8 + (1 : Int32)) fun x12 => rec6 x11 x12)))) (fun _ _ => none) 1000 (0 : Int32) (0 : Int32)))) (fun t _ => some (t, (0 : Int32), (S, L)))) (fun t _ => some (t, (0 : Int32), (S, L)))) (fun t _ => some (t, (0 : Int32), (S, L)))
abbrev rm_X10_holdTrial : Room := { frames := 8, cells := 5, slots := 623, locals := 222 }
set_option maxHeartbeats 4000000 in
set_option maxRecDepth 100000 in
theorem c_X10_holdTrial {l : Launch} {D : va_G} {B t0 : Nat} (hl9 : l.stackTraces = false) (S : jS) (X9 : jMem) (L : jLg) (hL : LogX D B t0 L X9) (p1 : Int32) : jCf l D B t0 yX10_holdTrial cX10_holdTrial 4 (some .int) rm_X10_holdTrial [.ref (B + 0), .int p1] (memG 0 358 D B S X9) (zD D) (f_X10_holdTrial S L p1) rvI (fun (S9 : jSL) M9 => ∃ X1, M9 = memG 0 358 D B S9.1 X1 ∧ LogK D B t0 X9 S9.2 X1) (zD D) := by
  refine jC_of hl9 (me_X10_holdTrial).1 [(0, .ref (B + 0)), (1, .int p1)] ⟨by decide +kernel, Nat.le_of_ble_eq_true rfl⟩ rfl (fun κ hl hD hB hT X htab hin => ?_)
  subst hl hD hB hT
  have X : jX κ RX10 cX10_holdTrial 4 (some .int) := X
  have hK : LogK (kD κ) (kB κ) (kT κ) X9 L X9 := LogK.rf hL
  unfold f_X10_holdTrial
  refine j_iload_n X 1 rfl dX10_holdTrial_0 rfl ?_
  refine j_callS X 4 617 (c_X10_checkTrial X.tr (memG 0 358 (kD κ) (kB κ) S X9) (zD (kD κ)) p1) me_X10_checkTrial ml_X10_256 st_X10_checkTrial htab dX10_holdTrial_1 (rest := []) rfl rfl (by decide) (by decide) (Nat.le_of_ble_eq_true rfl) (fun t S9 M9 r9 hp9 hr9 => by cases hr9; exact ⟨rfl, _, hp9, hK⟩) (fun v29 u30 M28 hM27 => ?_)
  subst M28
  refine j_st (st1 := []) rfl ?_
  refine j_aload_n X 0 rfl dX10_holdTrial_4 rfl ?_
  refine j_iload_n X 1 rfl dX10_holdTrial_5 rfl ?_
  refine j_callV X 3 611 (c_X10_checkNotHeld X.tr S X9 (zD (kD κ)) p1) me_X10_checkNotHeld ml_X10_259 iv_X10_checkNotHeld cf_X10 htab dX10_holdTrial_6 (memG_at kf_0) (rest := []) rfl rfl (by decide) (by decide) (Nat.le_of_ble_eq_true rfl) (fun t S9 M9 r9 hp9 hr9 => by cases hr9; exact ⟨rfl, _, hp9, hK⟩) (fun v25 u26 M24 hM23 => ?_)
  subst M24
  refine j_st (st1 := []) rfl ?_
  refine j_aload_n X 0 rfl dX10_holdTrial_9 rfl ?_
  refine j_callV X 2 605 (c_X10_checkLog X.tr S X9 (zD (kD κ)) L hK.1) me_X10_checkLog ml_X10_241 iv_X10_checkLog cf_X10 htab dX10_holdTrial_10 (memG_at kf_0) (rest := []) rfl rfl (by decide) (by decide) (Nat.le_of_ble_eq_true rfl) (fun t S9 M9 r9 hp9 hr9 => by cases hr9; exact ⟨rfl, _, hp9, hK⟩) (fun v21 u22 M20 hM19 => ?_)
  subst M20
  refine j_st (st1 := []) rfl ?_
  refine j_aload_n X 0 rfl dX10_holdTrial_13 rfl ?_
  refine g_getf X 4 kf_0 cf_X10 (by decide) fl_X10_40 dX10_holdTrial_14 rfl rfl ?_
  refine j_iload_n X 1 rfl dX10_holdTrial_17 rfl ?_
  refine g_aald X 7 6 kf_65 rfl rfl dX10_holdTrial_18 rfl rfl (fun h1 => ?_)
  refine j_iconst X (1 : Int32) dX10_holdTrial_19 (by rfl) ?_
  refine g_putN X 3 (kTrial (isTrial_of h1)).1 cf_X9 (by decide) fn_X10_288 dX10_holdTrial_20 rfl rfl rfl rfl (Nat.le_of_ble_eq_true rfl) rfl (fun S2 => ?_)
  refine j_aload_n X 0 rfl dX10_holdTrial_23 rfl ?_
  refine g_lnew X 1 600 hK cl_X10_224 dX10_holdTrial_24 (by decide) (fun q3 hq3 hKq3 => ?_)
  refine j_dup X dX10_holdTrial_27 rfl ?_
  refine j_iconst X (4 : Int32) dX10_holdTrial_28 (by rfl) ?_
  refine j_iconst X (-1 : Int32) dX10_holdTrial_29 (by rfl) ?_
  refine j_iconst X (-1 : Int32) dX10_holdTrial_30 (by rfl) ?_
  refine j_iload_n X 1 rfl dX10_holdTrial_31 rfl ?_
  refine j_iconst X (-1 : Int32) dX10_holdTrial_32 (by rfl) ?_
  refine g_linit X ml_X10_250 dX10_holdTrial_33 (LogK.low hK hq3) (by decide) (Nat.le_of_ble_eq_true rfl) ?_
  refine j_call0V X 0 0 (c_X10_enter X.tr S2 (jUp X9 q3 (entC (ent5 (4 : Int32) (-1 : Int32) (-1 : Int32) p1 (-1 : Int32)))) L ((hKq3 _).1) q3 (ent5 (4 : Int32) (-1 : Int32) (-1 : Int32) p1 (-1 : Int32)) hq3 jUp_eq) me_X10_enter ml_X10_253 iv_X10_enter cf_X10 dX10_holdTrial_36 (memG_at kf_0) (rest := []) rfl rfl (by decide) (by decide) (Nat.le_of_ble_eq_true rfl) (fun v18 S4 M17 hM16 => ?_)
  obtain ⟨X5, rfl, hKX51⟩ := hM16
  have hKX5 := ((hKq3 _)).trans hKX51
  refine j_st (st1 := []) rfl ?_
  refine j_iconst X (0 : Int32) dX10_holdTrial_39 (by rfl) ?_
  refine j_istore_n X [(2, .int (0 : Int32)), (0, .ref (kB κ + 0)), (1, .int p1)] dX10_holdTrial_40 rfl (by decide) rfl ?_
  refine j_iconst X (0 : Int32) dX10_holdTrial_41 (by rfl) ?_
  refine j_istore_n X [(3, .int (0 : Int32)), (2, .int (0 : Int32)), (0, .ref (kB κ + 0)), (1, .int p1)] dX10_holdTrial_42 rfl (by decide) rfl ?_
  refine j_lv [2, 3, 1, 0] rfl ?_
  refine j_loop (fun (k : Int32 → Int32 → Option (jR jSL)) => ∀ (x7 : Int32) (x8 : Int32), J κ 4 rm_X10_holdTrial (jQf κ rm_X10_holdTrial rvI (fun (S9 : jSL) M9 => ∃ X1, M9 = memG 0 358 (kD κ) (kB κ) S9.1 X1 ∧ LogK (kD κ) (kB κ) (kT κ) X9 S9.2 X1) (zD (kD κ))) (k x7 x8) (memG 0 358 (kD κ) (kB κ) S4.1 X5) (zD (kD κ)) 0 0 [(0, .ref (kB κ + 0)), (1, .int p1), (2, .int x7), (3, .int x8)] 43 []) (fun _ _ => j_none) (fun rec6 hrec6 => ?_) 1000 _ _
  intro x7 x8
  refine j_iload_n X 3 rfl dX10_holdTrial_43 rfl ?_
  refine j_bipush X (20 : Int32) dX10_holdTrial_44 (by rfl) ?_
  refine j_icmp_ge X 68 dX10_holdTrial_46 (by decide) ?_ ?_
  · refine j_iload_n X 2 rfl dX10_holdTrial_68 rfl ?_
    exact j_iret X dX10_holdTrial_69 ⟨_, rfl, hKX5⟩ (fun _ h => h)
  · refine j_iload_n X 2 rfl dX10_holdTrial_49 rfl ?_
    refine j_aload_n X 0 rfl dX10_holdTrial_50 rfl ?_
    refine g_getf X 6 kf_0 cf_X10 (by decide) fl_X10_53 dX10_holdTrial_51 rfl rfl ?_
    refine j_iload_n X 3 rfl dX10_holdTrial_54 rfl ?_
    refine g_aald X 8 20 kf_67 rfl rfl dX10_holdTrial_55 rfl rfl (fun h9 => ?_)
    refine j_iload_n X 1 rfl dX10_holdTrial_56 rfl ?_
    refine j_call0V X 0 0 (c_X5_countHeldBy X.tr S4.1 X5 (zD (kD κ)) (82 + 12 * x8.toNatClampNeg) (isPast_of h9) p1) me_X5_countHeldBy ml_X10_292 iv_X5_countHeldBy cf_X5 dX10_holdTrial_57 (memG_at (kPast (isPast_of h9)).1) (rest := [.int x7]) rfl rfl (by decide) (by decide) (Nat.le_of_ble_eq_true rfl) (fun v10 u15 M14 hM13 => ?_)
    subst M14
    refine j_st (st1 := [.int v10, .int x7]) rfl ?_
    refine j_iadd X dX10_holdTrial_60 ?_
    refine j_letE (fun x11 => ?_)
    refine j_istore_n X [(2, .int x11), (0, .ref (kB κ + 0)), (1, .int p1), (3, .int x8)] dX10_holdTrial_61 rfl (by decide) rfl ?_
    refine j_iincL X 3 (fun x12 => [(3, .int x12), (2, .int x11), (0, .ref (kB κ + 0)), (1, .int p1)]) dX10_holdTrial_62 rfl (by rfl) (by decide) (fun _ => rfl) (fun x12 => ?_)
    refine j_goto X 43 dX10_holdTrial_65 (by decide) ?_
    refine j_lv [2, 3, 1, 0] rfl ?_
    exact hrec6 x11 x12
def f_X10_releaseTrial (S : jS) (L : jLg) (p1 : Int32) : Option (jR jSL) := jbind (f_X10_checkTrial p1) (fun _ _ => chk (inb p1 6) ((if (S (346 + 2 * p1.toNatClampNeg) 3) = (0 : Int32) then some (2, (0 : Int32), (S, L)) else jbind (f_X10_checkLog S L) (fun _ _ => loopK (fun (rec2 : Int32 → Int32 → Option (jR jSL)) (x3 : Int32) (x4 : Int32) => (if (20 : Int32) ≤ x4 then chk (inb p1 6) (letE (jset S (346 + 2 * p1.toNatClampNeg) 3 (0 : Int32)) fun S6 => jbin0 (f_X10_enter S6 L (ent5 (5 : Int32) (-1 : Int32) (-1 : Int32) p1 (-1 : Int32))) (fun _ S8 => some (0, x3, (S8.1, S8.2)))) else chk (inb x4 20) (jbin0 (f_X5_countHeldOnlyBy S (82 + 12 * x4.toNatClampNeg) p1) (fun v14 _ => letE (x3 + v14) fun x15 => letE (x4 + (1 : Int32)) fun x16 => rec2 x15 x16)))) (fun _ _ => none) 1000 (0 : Int32) (0 : Int32)) (fun t _ => some (t, (0 : Int32), (S, L)))))) (fun t _ => some (t, (0 : Int32), (S, L)))
abbrev rm_X10_releaseTrial : Room := { frames := 8, cells := 5, slots := 623, locals := 222 }
set_option maxHeartbeats 4000000 in
set_option maxRecDepth 100000 in
theorem c_X10_releaseTrial {l : Launch} {D : va_G} {B t0 : Nat} (hl9 : l.stackTraces = false) (S : jS) (X9 : jMem) (L : jLg) (hL : LogX D B t0 L X9) (p1 : Int32) : jCf l D B t0 yX10_releaseTrial cX10_releaseTrial 4 (some .int) rm_X10_releaseTrial [.ref (B + 0), .int p1] (memG 0 358 D B S X9) (zD D) (f_X10_releaseTrial S L p1) rvI (fun (S9 : jSL) M9 => ∃ X1, M9 = memG 0 358 D B S9.1 X1 ∧ LogK D B t0 X9 S9.2 X1) (zD D) := by
  refine jC_of hl9 (me_X10_releaseTrial).1 [(0, .ref (B + 0)), (1, .int p1)] ⟨by decide +kernel, Nat.le_of_ble_eq_true rfl⟩ rfl (fun κ hl hD hB hT X htab hin => ?_)
  subst hl hD hB hT
  have X : jX κ RX10 cX10_releaseTrial 4 (some .int) := X
  have hK : LogK (kD κ) (kB κ) (kT κ) X9 L X9 := LogK.rf hL
  unfold f_X10_releaseTrial
  refine j_iload_n X 1 rfl dX10_releaseTrial_0 rfl ?_
  refine j_callS X 4 617 (c_X10_checkTrial X.tr (memG 0 358 (kD κ) (kB κ) S X9) (zD (kD κ)) p1) me_X10_checkTrial ml_X10_256 st_X10_checkTrial htab dX10_releaseTrial_1 (rest := []) rfl rfl (by decide) (by decide) (Nat.le_of_ble_eq_true rfl) (fun t S9 M9 r9 hp9 hr9 => by cases hr9; exact ⟨rfl, _, hp9, hK⟩) (fun v26 u27 M25 hM24 => ?_)
  subst M25
  refine j_st (st1 := []) rfl ?_
  refine j_aload_n X 0 rfl dX10_releaseTrial_4 rfl ?_
  refine g_getf X 4 kf_0 cf_X10 (by decide) fl_X10_40 dX10_releaseTrial_5 rfl rfl ?_
  refine j_iload_n X 1 rfl dX10_releaseTrial_8 rfl ?_
  refine g_aald X 7 6 kf_65 rfl rfl dX10_releaseTrial_9 rfl rfl (fun h1 => ?_)
  refine g_getN X 3 (kTrial (isTrial_of h1)).1 cf_X9 (by decide) fn_X10_288 dX10_releaseTrial_10 rfl rfl ?_
  refine j_if_ne X 27 dX10_releaseTrial_13 (by decide) ?_ ?_
  · exact j_throwW X th_X10_2_114_118 sr_X10_295 htab dX10_releaseTrial_16 dX10_releaseTrial_19 dX10_releaseTrial_20 dX10_releaseTrial_23 dX10_releaseTrial_26 (by decide) (by decide) ⟨_, rfl, hK⟩
  · refine j_aload_n X 0 rfl dX10_releaseTrial_27 rfl ?_
    refine j_callV X 3 611 (c_X10_checkLog X.tr S X9 (zD (kD κ)) L hK.1) me_X10_checkLog ml_X10_241 iv_X10_checkLog cf_X10 htab dX10_releaseTrial_28 (memG_at kf_0) (rest := []) rfl rfl (by decide) (by decide) (Nat.le_of_ble_eq_true rfl) (fun t S9 M9 r9 hp9 hr9 => by cases hr9; exact ⟨rfl, _, hp9, hK⟩) (fun v22 u23 M21 hM20 => ?_)
    subst M21
    refine j_st (st1 := []) rfl ?_
    refine j_iconst X (0 : Int32) dX10_releaseTrial_31 (by rfl) ?_
    refine j_istore_n X [(2, .int (0 : Int32)), (0, .ref (kB κ + 0)), (1, .int p1)] dX10_releaseTrial_32 rfl (by decide) rfl ?_
    refine j_iconst X (0 : Int32) dX10_releaseTrial_33 (by rfl) ?_
    refine j_istore_n X [(3, .int (0 : Int32)), (2, .int (0 : Int32)), (0, .ref (kB κ + 0)), (1, .int p1)] dX10_releaseTrial_34 rfl (by decide) rfl ?_
    refine j_lv [2, 3, 1, 0] rfl ?_
    refine j_loop (fun (k : Int32 → Int32 → Option (jR jSL)) => ∀ (x3 : Int32) (x4 : Int32), J κ 4 rm_X10_releaseTrial (jQf κ rm_X10_releaseTrial rvI (fun (S9 : jSL) M9 => ∃ X1, M9 = memG 0 358 (kD κ) (kB κ) S9.1 X1 ∧ LogK (kD κ) (kB κ) (kT κ) X9 S9.2 X1) (zD (kD κ))) (k x3 x4) (memG 0 358 (kD κ) (kB κ) S X9) (zD (kD κ)) 3 611 [(0, .ref (kB κ + 0)), (1, .int p1), (2, .int x3), (3, .int x4)] 35 []) (fun _ _ => j_none) (fun rec2 hrec2 => ?_) 1000 _ _
    intro x3 x4
    refine j_iload_n X 3 rfl dX10_releaseTrial_35 rfl ?_
    refine j_bipush X (20 : Int32) dX10_releaseTrial_36 (by rfl) ?_
    refine j_icmp_ge X 60 dX10_releaseTrial_38 (by decide) ?_ ?_
    · refine j_aload_n X 0 rfl dX10_releaseTrial_60 rfl ?_
      refine g_getf X 4 kf_0 cf_X10 (by decide) fl_X10_40 dX10_releaseTrial_61 rfl rfl ?_
      refine j_iload_n X 1 rfl dX10_releaseTrial_64 rfl ?_
      refine g_aald X 7 6 kf_65 rfl rfl dX10_releaseTrial_65 rfl rfl (fun h5 => ?_)
      refine j_iconst X (0 : Int32) dX10_releaseTrial_66 (by rfl) ?_
      refine g_putN X 3 (kTrial (isTrial_of h5)).1 cf_X9 (by decide) fn_X10_288 dX10_releaseTrial_67 rfl rfl rfl rfl (Nat.le_of_ble_eq_true rfl) rfl (fun S6 => ?_)
      refine j_aload_n X 0 rfl dX10_releaseTrial_70 rfl ?_
      refine g_lnew X 2 606 hK cl_X10_224 dX10_releaseTrial_71 (by decide) (fun q7 hq7 hKq7 => ?_)
      refine j_dup X dX10_releaseTrial_74 rfl ?_
      refine j_iconst X (5 : Int32) dX10_releaseTrial_75 (by rfl) ?_
      refine j_iconst X (-1 : Int32) dX10_releaseTrial_76 (by rfl) ?_
      refine j_iconst X (-1 : Int32) dX10_releaseTrial_77 (by rfl) ?_
      refine j_iload_n X 1 rfl dX10_releaseTrial_78 rfl ?_
      refine j_iconst X (-1 : Int32) dX10_releaseTrial_79 (by rfl) ?_
      refine g_linit X ml_X10_250 dX10_releaseTrial_80 (LogK.low hK hq7) (by decide) (Nat.le_of_ble_eq_true rfl) ?_
      refine j_call0V X 1 6 (c_X10_enter X.tr S6 (jUp X9 q7 (entC (ent5 (5 : Int32) (-1 : Int32) (-1 : Int32) p1 (-1 : Int32)))) L ((hKq7 _).1) q7 (ent5 (5 : Int32) (-1 : Int32) (-1 : Int32) p1 (-1 : Int32)) hq7 jUp_eq) me_X10_enter ml_X10_253 iv_X10_enter cf_X10 dX10_releaseTrial_83 (memG_at kf_0) (rest := []) rfl rfl (by decide) (by decide) (Nat.le_of_ble_eq_true rfl) (fun v12 S8 M11 hM10 => ?_)
      obtain ⟨X9, rfl, hKX91⟩ := hM10
      have hKX9 := ((hKq7 _)).trans hKX91
      refine j_st (st1 := []) rfl ?_
      refine j_iload_n X 2 rfl dX10_releaseTrial_86 rfl ?_
      exact j_iret X dX10_releaseTrial_87 ⟨_, rfl, hKX9⟩ (fun _ h => h)
    · refine j_iload_n X 2 rfl dX10_releaseTrial_41 rfl ?_
      refine j_aload_n X 0 rfl dX10_releaseTrial_42 rfl ?_
      refine g_getf X 6 kf_0 cf_X10 (by decide) fl_X10_53 dX10_releaseTrial_43 rfl rfl ?_
      refine j_iload_n X 3 rfl dX10_releaseTrial_46 rfl ?_
      refine g_aald X 8 20 kf_67 rfl rfl dX10_releaseTrial_47 rfl rfl (fun h13 => ?_)
      refine j_iload_n X 1 rfl dX10_releaseTrial_48 rfl ?_
      refine j_call0V X 3 611 (c_X5_countHeldOnlyBy X.tr S X9 (zD (kD κ)) (82 + 12 * x4.toNatClampNeg) (isPast_of h13) p1) me_X5_countHeldOnlyBy ml_X10_297 iv_X5_countHeldOnlyBy cf_X5 dX10_releaseTrial_49 (memG_at (kPast (isPast_of h13)).1) (rest := [.int x3]) rfl rfl (by decide) (by decide) (Nat.le_of_ble_eq_true rfl) (fun v14 u19 M18 hM17 => ?_)
      subst M18
      refine j_st (st1 := [.int v14, .int x3]) rfl ?_
      refine j_iadd X dX10_releaseTrial_52 ?_
      refine j_letE (fun x15 => ?_)
      refine j_istore_n X [(2, .int x15), (0, .ref (kB κ + 0)), (1, .int p1), (3, .int x4)] dX10_releaseTrial_53 rfl (by decide) rfl ?_
      refine j_iincL X 3 (fun x16 => [(3, .int x16), (2, .int x15), (0, .ref (kB κ + 0)), (1, .int p1)]) dX10_releaseTrial_54 rfl (by rfl) (by decide) (fun _ => rfl) (fun x16 => ?_)
      refine j_goto X 35 dX10_releaseTrial_57 (by decide) ?_
      refine j_lv [2, 3, 1, 0] rfl ?_
      exact hrec2 x15 x16
end GEN
