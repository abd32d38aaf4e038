section GEN
def f_X11_lacksNeed (S : jS) (p1 : Int32) (p2 : Int32) : Option (jR Unit) := loopK (fun (rec1 : Int32 → Int32 → Option (jR Unit)) (x2 : Int32) (x3 : Int32) => (if (8 : Int32) ≤ x3 then chk (isb x2) (some (0, x2, ())) else joinK (fun (x9 : Int32) => letE (x3 + (1 : Int32)) fun x10 => rec1 x9 x10) (fun k4 => joinK (fun (_ : Unit) => k4 (1 : Int32)) (fun k5 => (if x2 = (0 : Int32) then chk (inb p2 8) (joinK (fun (_ : Unit) => k4 (0 : Int32)) (fun k6 => (if (((S 375 p2.toNatClampNeg) >>> (x3 &&& 31)) &&& (1 : Int32)) = (1 : Int32) then chk (inb ((((8 : Int32) * p1) + x3)) 160) ((if (S 376 ((((8 : Int32) * p1) + x3)).toNatClampNeg) = (0 : Int32) then k5 () else k6 ())) else k6 ()))) else k5 ()))))) (fun _ _ => none) 1000 (0 : Int32) (0 : Int32)
abbrev rm_X11_lacksNeed : Room := { frames := 0, cells := 0, slots := 0, locals := 0 }
set_option maxHeartbeats 4000000 in
set_option maxRecDepth 100000 in
theorem c_X11_lacksNeed {l : Launch} {D : va_G} {B t0 : Nat} (hl9 : l.stackTraces = false) (S : jS) (X9 : jMem) (z : Nat → Prop) (p1 : Int32) (p2 : Int32) : jCf l D B t0 yX11_lacksNeed cX11_lacksNeed 5 (some .boolean) rm_X11_lacksNeed [.ref (B + 358), .int p1, .int p2] (memG 358 387 D B S X9) z (f_X11_lacksNeed S p1 p2) rvI (fun (S9 : Unit) M9 => M9 = memG 358 387 D B S X9) z := by
  refine jC_of hl9 (me_X11_lacksNeed).1 [(0, .ref (B + 358)), (1, .int p1), (2, .int p2)] ⟨by decide +kernel, Nat.le_of_ble_eq_true rfl⟩ rfl (fun κ hl hD hB hT X htab hin => ?_)
  subst hl hD hB hT
  have X : jX κ RX11 cX11_lacksNeed 5 (some .boolean) := X
  unfold f_X11_lacksNeed
  refine j_iconst X (0 : Int32) dX11_lacksNeed_0 (by rfl) ?_
  refine j_istore_n X [(3, .int (0 : Int32)), (0, .ref (kB κ + 358)), (1, .int p1), (2, .int p2)] dX11_lacksNeed_1 rfl (by decide) rfl ?_
  refine j_iconst X (0 : Int32) dX11_lacksNeed_2 (by rfl) ?_
  refine j_istore X [(4, .int (0 : Int32)), (3, .int (0 : Int32)), (0, .ref (kB κ + 358)), (1, .int p1), (2, .int p2)] dX11_lacksNeed_3 (by decide) rfl ?_
  refine j_lv [2, 3, 4, 1, 0] rfl ?_
  refine j_loop (fun (k : Int32 → Int32 → Option (jR Unit)) => ∀ (x2 : Int32) (x3 : Int32), J κ 5 rm_X11_lacksNeed (jQf κ rm_X11_lacksNeed rvI (fun (S9 : Unit) M9 => M9 = memG 358 387 (kD κ) (kB κ) S X9) z) (k x2 x3) (memG 358 387 (kD κ) (kB κ) S X9) z 0 0 [(0, .ref (kB κ + 358)), (1, .int p1), (2, .int p2), (3, .int x2), (4, .int x3)] 5 []) (fun _ _ => j_none) (fun rec1 hrec1 => ?_) 1000 _ _
  intro x2 x3
  refine j_iload X 4 rfl dX11_lacksNeed_5 ?_
  refine j_bipush X (8 : Int32) dX11_lacksNeed_7 (by rfl) ?_
  refine j_icmp_ge X 58 dX11_lacksNeed_9 (by decide) ?_ ?_
  · refine j_iload_n X 3 rfl dX11_lacksNeed_58 rfl ?_
    exact j_zret X dX11_lacksNeed_59 rfl (fun _ h => h)
  · refine j_iload_n X 3 rfl dX11_lacksNeed_12 rfl ?_
    refine j_join (fun k4 => ∀ (x9 : Int32), J κ 5 rm_X11_lacksNeed (jQf κ rm_X11_lacksNeed rvI (fun (S9 : Unit) M9 => M9 = memG 358 387 (kD κ) (kB κ) S X9) z) (k4 x9) (memG 358 387 (kD κ) (kB κ) S X9) z 0 0 [(0, .ref (kB κ + 358)), (1, .int p1), (2, .int p2), (4, .int x3)] 51 [.int x9]) ?_ (fun k4 hk4 => ?_)
    · intro x9
      refine j_istore_n X [(3, .int x9), (0, .ref (kB κ + 358)), (1, .int p1), (2, .int p2), (4, .int x3)] dX11_lacksNeed_51 rfl (by decide) rfl ?_
      refine j_iincL X 4 (fun x10 => [(4, .int x10), (3, .int x9), (0, .ref (kB κ + 358)), (1, .int p1), (2, .int p2)]) dX11_lacksNeed_52 rfl (by rfl) (by decide) (fun _ => rfl) (fun x10 => ?_)
      refine j_goto X 5 dX11_lacksNeed_55 (by decide) ?_
      refine j_lv [2, 3, 4, 1, 0] rfl ?_
      exact hrec1 x9 x10
    · refine j_join (fun k5 => ∀ (_ : Unit), J κ 5 rm_X11_lacksNeed (jQf κ rm_X11_lacksNeed rvI (fun (S9 : Unit) M9 => M9 = memG 358 387 (kD κ) (kB κ) S X9) z) (k5 ()) (memG 358 387 (kD κ) (kB κ) S X9) z 0 0 [(0, .ref (kB κ + 358)), (1, .int p1), (2, .int p2), (4, .int x3)] 46 []) ?_ (fun k5 hk5 => ?_)
      · intro _
        refine j_iconst X (1 : Int32) dX11_lacksNeed_46 (by rfl) ?_
        refine j_goto X 51 dX11_lacksNeed_47 (by decide) ?_
        exact hk4 (1 : Int32)
      · refine j_if_ne X 46 dX11_lacksNeed_13 (by decide) ?_ ?_
        · refine j_aload_n X 0 rfl dX11_lacksNeed_16 rfl ?_
          refine g_getf X 18 kf_358 cf_X11 (by decide) fl_X11_59 dX11_lacksNeed_17 rfl rfl ?_
          refine j_iload_n X 2 rfl dX11_lacksNeed_20 rfl ?_
          refine g_iald X 8 kf_375 (by decide) dX11_lacksNeed_21 (fun h8 => ?_)
          refine j_iload X 4 rfl dX11_lacksNeed_22 ?_
          refine j_ishr X dX11_lacksNeed_24 ?_
          refine j_iconst X (1 : Int32) dX11_lacksNeed_25 (by rfl) ?_
          refine j_iand X dX11_lacksNeed_26 ?_
          refine j_iconst X (1 : Int32) dX11_lacksNeed_27 (by rfl) ?_
          refine j_join (fun k6 => ∀ (_ : Unit), J κ 5 rm_X11_lacksNeed (jQf κ rm_X11_lacksNeed rvI (fun (S9 : Unit) M9 => M9 = memG 358 387 (kD κ) (kB κ) S X9) z) (k6 ()) (memG 358 387 (kD κ) (kB κ) S X9) z 0 0 [(0, .ref (kB κ + 358)), (1, .int p1), (2, .int p2), (4, .int x3)] 50 []) ?_ (fun k6 hk6 => ?_)
          · intro _
            refine j_iconst X (0 : Int32) dX11_lacksNeed_50 (by rfl) ?_
            exact hk4 (0 : Int32)
          · refine j_icmp_ne X 50 dX11_lacksNeed_28 (by decide) ?_ ?_
            · refine j_aload_n X 0 rfl dX11_lacksNeed_31 rfl ?_
              refine g_getf X 19 kf_358 cf_X11 (by decide) fl_X11_62 dX11_lacksNeed_32 rfl rfl ?_
              refine j_bipush X (8 : Int32) dX11_lacksNeed_35 (by rfl) ?_
              refine j_iload_n X 1 rfl dX11_lacksNeed_37 rfl ?_
              refine j_imul X dX11_lacksNeed_38 ?_
              refine j_iload X 4 rfl dX11_lacksNeed_39 ?_
              refine j_iadd X dX11_lacksNeed_41 ?_
              refine g_iald X 160 kf_376 (by decide) dX11_lacksNeed_42 (fun h7 => ?_)
              refine j_if_ne X 50 dX11_lacksNeed_43 (by decide) ?_ ?_
              · refine j_lv [0, 1, 2, 4] rfl ?_
                exact hk5 ()
              · refine j_lv [0, 1, 2, 4] rfl ?_
                exact hk6 ()
            · refine j_lv [0, 1, 2, 4] rfl ?_
              exact hk6 ()
        · refine j_lv [0, 1, 2, 4] rfl ?_
          exact hk5 ()
def f_X11_ruleNow (S : jS) (p1 : Int32) (p2 : Int32) : Option (jR Unit) := loopK (fun (rec1 : Int32 → Option (jR Unit)) (x2 : Int32) => chk (inb p2 8) ((if (S 372 p2.toNatClampNeg) ≤ x2 then some (0, (-1 : Int32), ()) else chk (inb ((((5 : Int32) * p2) + x2)) 40) (chk (inb ((S 373 ((((5 : Int32) * p2) + x2)).toNatClampNeg)) 6) ((if (((S 367 ((S 373 ((((5 : Int32) * p2) + x2)).toNatClampNeg)).toNatClampNeg) >>> (p1 &&& 31)) &&& (1 : Int32)) = (1 : Int32) then some (0, x2, ()) else letE (x2 + (1 : Int32)) fun x3 => rec1 x3)))))) (fun _ => none) 1000 (0 : Int32)
abbrev rm_X11_ruleNow : Room := { frames := 0, cells := 0, slots := 0, locals := 0 }
set_option maxHeartbeats 4000000 in
set_option maxRecDepth 100000 in
theorem c_X11_ruleNow {l : Launch} {D : va_G} {B t0 : Nat} (hl9 : l.stackTraces = false) (S : jS) (X9 : jMem) (z : Nat → Prop) (p1 : Int32) (p2 : Int32) : jCf l D B t0 yX11_ruleNow cX11_ruleNow 4 (some .int) rm_X11_ruleNow [.ref (B + 358), .int p1, .int p2] (memG 358 387 D B S X9) z (f_X11_ruleNow S p1 p2) rvI (fun (S9 : Unit) M9 => M9 = memG 358 387 D B S X9) z := by
  refine jC_of hl9 (me_X11_ruleNow).1 [(0, .ref (B + 358)), (1, .int p1), (2, .int p2)] ⟨by decide +kernel, Nat.le_of_ble_eq_true rfl⟩ rfl (fun κ hl hD hB hT X htab hin => ?_)
  subst hl hD hB hT
  have X : jX κ RX11 cX11_ruleNow 4 (some .int) := X
  unfold f_X11_ruleNow
  refine j_iconst X (0 : Int32) dX11_ruleNow_0 (by rfl) ?_
  refine j_istore_n X [(3, .int (0 : Int32)), (0, .ref (kB κ + 358)), (1, .int p1), (2, .int p2)] dX11_ruleNow_1 rfl (by decide) rfl ?_
  refine j_lv [1, 2, 3, 0] rfl ?_
  refine j_loop (fun (k : Int32 → Option (jR Unit)) => ∀ (x2 : Int32), J κ 4 rm_X11_ruleNow (jQf κ rm_X11_ruleNow rvI (fun (S9 : Unit) M9 => M9 = memG 358 387 (kD κ) (kB κ) S X9) z) (k x2) (memG 358 387 (kD κ) (kB κ) S X9) z 0 0 [(0, .ref (kB κ + 358)), (1, .int p1), (2, .int p2), (3, .int x2)] 2 []) (fun _ => j_none) (fun rec1 hrec1 => ?_) 1000 _
  intro x2
  refine j_iload_n X 3 rfl dX11_ruleNow_2 rfl ?_
  refine j_aload_n X 0 rfl dX11_ruleNow_3 rfl ?_
  refine g_getf X 15 kf_358 cf_X11 (by decide) fl_X11_50 dX11_ruleNow_4 rfl rfl ?_
  refine j_iload_n X 2 rfl dX11_ruleNow_7 rfl ?_
  refine g_iald X 8 kf_372 (by decide) dX11_ruleNow_8 (fun h6 => ?_)
  refine j_icmp_ge X 43 dX11_ruleNow_9 (by decide) ?_ ?_
  · refine j_iconst X (-1 : Int32) dX11_ruleNow_43 (by rfl) ?_
    exact j_iret X dX11_ruleNow_44 rfl (fun _ h => h)
  · refine j_aload_n X 0 rfl dX11_ruleNow_12 rfl ?_
    refine g_getf X 10 kf_358 cf_X11 (by decide) fl_X11_34 dX11_ruleNow_13 rfl rfl ?_
    refine j_aload_n X 0 rfl dX11_ruleNow_16 rfl ?_
    refine g_getf X 16 kf_358 cf_X11 (by decide) fl_X11_53 dX11_ruleNow_17 rfl rfl ?_
    refine j_iconst X (5 : Int32) dX11_ruleNow_20 (by rfl) ?_
    refine j_iload_n X 2 rfl dX11_ruleNow_21 rfl ?_
    refine j_imul X dX11_ruleNow_22 ?_
    refine j_iload_n X 3 rfl dX11_ruleNow_23 rfl ?_
    refine j_iadd X dX11_ruleNow_24 ?_
    refine g_iald X 40 kf_373 (by decide) dX11_ruleNow_25 (fun h5 => ?_)
    refine g_iald X 6 kf_367 (by decide) dX11_ruleNow_26 (fun h4 => ?_)
    refine j_iload_n X 1 rfl dX11_ruleNow_27 rfl ?_
    refine j_ishr X dX11_ruleNow_28 ?_
    refine j_iconst X (1 : Int32) dX11_ruleNow_29 (by rfl) ?_
    refine j_iand X dX11_ruleNow_30 ?_
    refine j_iconst X (1 : Int32) dX11_ruleNow_31 (by rfl) ?_
    refine j_icmp_ne X 37 dX11_ruleNow_32 (by decide) ?_ ?_
    · refine j_iload_n X 3 rfl dX11_ruleNow_35 rfl ?_
      exact j_iret X dX11_ruleNow_36 rfl (fun _ h => h)
    · refine j_iincL X 3 (fun x3 => [(3, .int x3), (0, .ref (kB κ + 358)), (1, .int p1), (2, .int p2)]) dX11_ruleNow_37 rfl (by rfl) (by decide) (fun _ => rfl) (fun x3 => ?_)
      refine j_goto X 2 dX11_ruleNow_40 (by decide) ?_
      refine j_lv [1, 2, 3, 0] rfl ?_
      exact hrec1 x3
def f_X11_armNow (S : jS) (p1 : Int32) (p2 : Int32) : Option (jR Unit) := chk (inb ((((20 : Int32) * p1) + p2)) 120) (letE ((S 381 ((((20 : Int32) * p1) + p2)).toNatClampNeg)) fun x1 => chk (inb p1 6) (joinK (fun (_ : Unit) => chk (inb p1 6) (joinK (fun (x20 : Int32) => some (0, x20, ())) (fun k18 => (if (S 380 p1.toNatClampNeg) ≤ (0 : Int32) then k18 ((x1 - (1 : Int32))) else chk (inb p1 6) (k18 (((S 380 p1.toNatClampNeg) - (1 : Int32)))))))) (fun k2 => (if (0 : Int32) < (S 380 p1.toNatClampNeg) then k2 () else (if x1 ≤ (0 : Int32) then loopK (fun (rec3 : Int32 → Int32 → Option (jR Unit)) (x4 : Int32) (x5 : Int32) => (if (4 : Int32) ≤ x5 then (if x4 = (0 : Int32) then some (0, (0 : Int32), ()) else chk (inb p1 6) (chk (!decide (x4 = 0)) (letE (((((((7919 : Int32) * p2) + ((104729 : Int32) * (S 379 p1.toNatClampNeg))) + (13 : Int32)) - ((((7919 : Int32) * p2) + ((104729 : Int32) * (S 379 p1.toNatClampNeg))) + (13 : Int32)) / (1000003 : Int32) * (1000003 : Int32)) - (((((7919 : Int32) * p2) + ((104729 : Int32) * (S 379 p1.toNatClampNeg))) + (13 : Int32)) - ((((7919 : Int32) * p2) + ((104729 : Int32) * (S 379 p1.toNatClampNeg))) + (13 : Int32)) / (1000003 : Int32) * (1000003 : Int32)) / x4 * x4)) fun x6 => loopK (fun (rec7 : Int32 → Int32 → Option (jR Unit)) (x8 : Int32) (x9 : Int32) => chk (inb ((((4 : Int32) * p1) + x9)) 24) ((if x8 < (S 378 ((((4 : Int32) * p1) + x9)).toNatClampNeg) then some (0, x9, ()) else chk (inb ((((4 : Int32) * p1) + x9)) 24) (letE ((x8 - (S 378 ((((4 : Int32) * p1) + x9)).toNatClampNeg))) fun x10 => letE (x9 + (1 : Int32)) fun x11 => rec7 x10 x11)))) (fun _ _ => none) 1000 x6 (0 : Int32)))) else chk (inb ((((4 : Int32) * p1) + x5)) 24) (letE ((x4 + (S 378 ((((4 : Int32) * p1) + x5)).toNatClampNeg))) fun x15 => letE (x5 + (1 : Int32)) fun x16 => rec3 x15 x16))) (fun _ _ => none) 1000 (0 : Int32) (0 : Int32) else k2 ())))))
abbrev rm_X11_armNow : Room := { frames := 0, cells := 0, slots := 0, locals := 0 }
set_option maxHeartbeats 4000000 in
set_option maxRecDepth 100000 in
theorem c_X11_armNow {l : Launch} {D : va_G} {B t0 : Nat} (hl9 : l.stackTraces = false) (S : jS) (X9 : jMem) (z : Nat → Prop) (p1 : Int32) (p2 : Int32) : jCf l D B t0 yX11_armNow cX11_armNow 7 (some .int) rm_X11_armNow [.ref (B + 358), .int p1, .int p2] (memG 358 387 D B S X9) z (f_X11_armNow S p1 p2) rvI (fun (S9 : Unit) M9 => M9 = memG 358 387 D B S X9) z := by
  refine jC_of hl9 (me_X11_armNow).1 [(0, .ref (B + 358)), (1, .int p1), (2, .int p2)] ⟨by decide +kernel, Nat.le_of_ble_eq_true rfl⟩ rfl (fun κ hl hD hB hT X htab hin => ?_)
  subst hl hD hB hT
  have X : jX κ RX11 cX11_armNow 7 (some .int) := X
  unfold f_X11_armNow
  refine j_aload_n X 0 rfl dX11_armNow_0 rfl ?_
  refine g_getf X 24 kf_358 cf_X11 (by decide) fl_X11_77 dX11_armNow_1 rfl rfl ?_
  refine j_bipush X (20 : Int32) dX11_armNow_4 (by rfl) ?_
  refine j_iload_n X 1 rfl dX11_armNow_6 rfl ?_
  refine j_imul X dX11_armNow_7 ?_
  refine j_iload_n X 2 rfl dX11_armNow_8 rfl ?_
  refine j_iadd X dX11_armNow_9 ?_
  refine g_iald X 120 kf_381 (by decide) dX11_armNow_10 (fun h23 => ?_)
  refine j_letE (fun x1 => ?_)
  refine j_istore_n X [(3, .int x1), (0, .ref (kB κ + 358)), (1, .int p1), (2, .int p2)] dX11_armNow_11 rfl (by decide) rfl ?_
  refine j_aload_n X 1 rfl dX11_armNow_12 rfl ?_
  refine g_getf X 23 kf_358 cf_X11 (by decide) fl_X11_74 dX11_armNow_13 rfl rfl ?_
  refine j_iload_n X 2 rfl dX11_armNow_16 rfl ?_
  refine g_iald X 6 kf_380 (by decide) dX11_armNow_17 (fun h22 => ?_)
  refine j_join (fun k2 => ∀ (_ : Unit), J κ 7 rm_X11_armNow (jQf κ rm_X11_armNow rvI (fun (S9 : Unit) M9 => M9 = memG 358 387 (kD κ) (kB κ) S X9) z) (k2 ()) (memG 358 387 (kD κ) (kB κ) S X9) z 0 0 [(0, .ref (kB κ + 358)), (1, .int p1), (3, .int x1)] 25 []) ?_ (fun k2 hk2 => ?_)
  · intro _
    refine j_aload_n X 0 rfl dX11_armNow_25 rfl ?_
    refine g_getf X 23 kf_358 cf_X11 (by decide) fl_X11_74 dX11_armNow_26 rfl rfl ?_
    refine j_iload_n X 1 rfl dX11_armNow_29 rfl ?_
    refine g_iald X 6 kf_380 (by decide) dX11_armNow_30 (fun h21 => ?_)
    refine j_join (fun k18 => ∀ (x20 : Int32), J κ 7 rm_X11_armNow (jQf κ rm_X11_armNow rvI (fun (S9 : Unit) M9 => M9 = memG 358 387 (kD κ) (kB κ) S X9) z) (k18 x20) (memG 358 387 (kD κ) (kB κ) S X9) z 0 0 [] 48 [.int x20]) ?_ (fun k18 hk18 => ?_)
    · intro x20
      exact j_iret X dX11_armNow_48 rfl (fun _ h => h)
    · refine j_if_le X 45 dX11_armNow_31 (by decide) ?_ ?_
      · refine j_iload_n X 2 rfl dX11_armNow_45 rfl ?_
        refine j_iconst X (1 : Int32) dX11_armNow_46 (by rfl) ?_
        refine j_isub X dX11_armNow_47 ?_
        refine j_lv [] rfl ?_
        exact hk18 ((x1 - (1 : Int32)))
      · refine j_aload_n X 0 rfl dX11_armNow_34 rfl ?_
        refine g_getf X 23 kf_358 cf_X11 (by decide) fl_X11_74 dX11_armNow_35 rfl rfl ?_
        refine j_iload_n X 1 rfl dX11_armNow_38 rfl ?_
        refine g_iald X 6 kf_380 (by decide) dX11_armNow_39 (fun h19 => ?_)
        refine j_iconst X (1 : Int32) dX11_armNow_40 (by rfl) ?_
        refine j_isub X dX11_armNow_41 ?_
        refine j_goto X 48 dX11_armNow_42 (by decide) ?_
        refine j_lv [] rfl ?_
        exact hk18 (((S 380 p1.toNatClampNeg) - (1 : Int32)))
  · refine j_if_gt X 25 dX11_armNow_18 (by decide) ?_ ?_
    · refine j_lv [1, 2, 0] rfl ?_
      exact hk2 ()
    · refine j_iload_n X 0 rfl dX11_armNow_21 rfl ?_
      refine j_if_le X 49 dX11_armNow_22 (by decide) ?_ ?_
      · refine j_iconst X (0 : Int32) dX11_armNow_49 (by rfl) ?_
        refine j_istore X [(4, .int (0 : Int32)), (3, .int x1), (0, .ref (kB κ + 358)), (1, .int p1), (2, .int p2)] dX11_armNow_50 (by decide) rfl ?_
        refine j_iconst X (0 : Int32) dX11_armNow_52 (by rfl) ?_
        refine j_istore X [(5, .int (0 : Int32)), (4, .int (0 : Int32)), (3, .int x1), (0, .ref (kB κ + 358)), (1, .int p1), (2, .int p2)] dX11_armNow_53 (by decide) rfl ?_
        refine j_lv [3, 4, 5, 1, 0] rfl ?_
        refine j_loop (fun (k : Int32 → Int32 → Option (jR Unit)) => ∀ (x4 : Int32) (x5 : Int32), J κ 7 rm_X11_armNow (jQf κ rm_X11_armNow rvI (fun (S9 : Unit) M9 => M9 = memG 358 387 (kD κ) (kB κ) S X9) z) (k x4 x5) (memG 358 387 (kD κ) (kB κ) S X9) z 0 0 [(0, .ref (kB κ + 358)), (1, .int p1), (2, .int p2), (4, .int x4), (5, .int x5)] 55 []) (fun _ _ => j_none) (fun rec3 hrec3 => ?_) 1000 _ _
        intro x4 x5
        refine j_iload X 4 rfl dX11_armNow_55 ?_
        refine j_iconst X (4 : Int32) dX11_armNow_57 (by rfl) ?_
        refine j_icmp_ge X 83 dX11_armNow_58 (by decide) ?_ ?_
        · refine j_iload X 3 rfl dX11_armNow_83 ?_
          refine j_if_ne X 90 dX11_armNow_85 (by decide) ?_ ?_
          · refine j_iconst X (0 : Int32) dX11_armNow_88 (by rfl) ?_
            exact j_iret X dX11_armNow_89 rfl (fun _ h => h)
          · refine j_sipush X (7919 : Int32) dX11_armNow_90 (by rfl) ?_
            refine j_iload_n X 2 rfl dX11_armNow_93 rfl ?_
            refine j_imul X dX11_armNow_94 ?_
            refine j_ldc X kc_X11_194 dX11_armNow_95 ?_
            refine j_aload_n X 0 rfl dX11_armNow_97 rfl ?_
            refine g_getf X 22 kf_358 cf_X11 (by decide) fl_X11_71 dX11_armNow_98 rfl rfl ?_
            refine j_iload_n X 1 rfl dX11_armNow_101 rfl ?_
            refine g_iald X 6 kf_379 (by decide) dX11_armNow_102 (fun h14 => ?_)
            refine j_imul X dX11_armNow_103 ?_
            refine j_iadd X dX11_armNow_104 ?_
            refine j_bipush X (13 : Int32) dX11_armNow_105 (by rfl) ?_
            refine j_iadd X dX11_armNow_107 ?_
            refine j_ldc X kc_X11_195 dX11_armNow_108 ?_
            refine j_irem X (by decide) dX11_armNow_110 ?_
            refine j_iload X 3 rfl dX11_armNow_111 ?_
            refine j_chk (fun hne => ?_)
            refine j_irem X (by simpa using hne) dX11_armNow_113 ?_
            refine j_letE (fun x6 => ?_)
            refine j_istore X [(5, .int x6), (0, .ref (kB κ + 358)), (1, .int p1), (2, .int p2), (4, .int x4)] dX11_armNow_114 (by decide) rfl ?_
            refine j_iconst X (0 : Int32) dX11_armNow_116 (by rfl) ?_
            refine j_istore X [(6, .int (0 : Int32)), (5, .int x6), (0, .ref (kB κ + 358)), (1, .int p1), (2, .int p2), (4, .int x4)] dX11_armNow_117 (by decide) rfl ?_
            refine j_lv [2, 3, 1, 0] rfl ?_
            refine j_loop (fun (k : Int32 → Int32 → Option (jR Unit)) => ∀ (x8 : Int32) (x9 : Int32), J κ 7 rm_X11_armNow (jQf κ rm_X11_armNow rvI (fun (S9 : Unit) M9 => M9 = memG 358 387 (kD κ) (kB κ) S X9) z) (k x8 x9) (memG 358 387 (kD κ) (kB κ) S X9) z 0 0 [(0, .ref (kB κ + 358)), (1, .int p1), (5, .int x8), (6, .int x9)] 119 []) (fun _ _ => j_none) (fun rec7 hrec7 => ?_) 1000 _ _
            intro x8 x9
            refine j_aload_n X 0 rfl dX11_armNow_119 rfl ?_
            refine g_getf X 21 kf_358 cf_X11 (by decide) fl_X11_68 dX11_armNow_120 rfl rfl ?_
            refine j_iconst X (4 : Int32) dX11_armNow_123 (by rfl) ?_
            refine j_iload_n X 1 rfl dX11_armNow_124 rfl ?_
            refine j_imul X dX11_armNow_125 ?_
            refine j_iload X 3 rfl dX11_armNow_126 ?_
            refine j_iadd X dX11_armNow_128 ?_
            refine g_iald X 24 kf_378 (by decide) dX11_armNow_129 (fun h13 => ?_)
            refine j_iload X 2 rfl dX11_armNow_130 ?_
            refine j_icmp_gt X 157 dX11_armNow_132 (by decide) ?_ ?_
            · refine j_iload X 3 rfl dX11_armNow_157 ?_
              exact j_iret X dX11_armNow_159 rfl (fun _ h => h)
            · refine j_iload X 2 rfl dX11_armNow_135 ?_
              refine j_aload_n X 0 rfl dX11_armNow_137 rfl ?_
              refine g_getf X 21 kf_358 cf_X11 (by decide) fl_X11_68 dX11_armNow_138 rfl rfl ?_
              refine j_iconst X (4 : Int32) dX11_armNow_141 (by rfl) ?_
              refine j_iload_n X 1 rfl dX11_armNow_142 rfl ?_
              refine j_imul X dX11_armNow_143 ?_
              refine j_iload X 3 rfl dX11_armNow_144 ?_
              refine j_iadd X dX11_armNow_146 ?_
              refine g_iald X 24 kf_378 (by decide) dX11_armNow_147 (fun h12 => ?_)
              refine j_isub X dX11_armNow_148 ?_
              refine j_letE (fun x10 => ?_)
              refine j_istore X [(5, .int x10), (0, .ref (kB κ + 358)), (1, .int p1), (6, .int x9)] dX11_armNow_149 (by decide) rfl ?_
              refine j_iincL X 3 (fun x11 => [(6, .int x11), (5, .int x10), (0, .ref (kB κ + 358)), (1, .int p1)]) dX11_armNow_151 rfl (by rfl) (by decide) (fun _ => rfl) (fun x11 => ?_)
              refine j_goto X 119 dX11_armNow_154 (by decide) ?_
              refine j_lv [2, 3, 1, 0] rfl ?_
              exact hrec7 x10 x11
        · refine j_iload X 3 rfl dX11_armNow_61 ?_
          refine j_aload_n X 0 rfl dX11_armNow_63 rfl ?_
          refine g_getf X 21 kf_358 cf_X11 (by decide) fl_X11_68 dX11_armNow_64 rfl rfl ?_
          refine j_iconst X (4 : Int32) dX11_armNow_67 (by rfl) ?_
          refine j_iload_n X 1 rfl dX11_armNow_68 rfl ?_
          refine j_imul X dX11_armNow_69 ?_
          refine j_iload X 4 rfl dX11_armNow_70 ?_
          refine j_iadd X dX11_armNow_72 ?_
          refine g_iald X 24 kf_378 (by decide) dX11_armNow_73 (fun h17 => ?_)
          refine j_iadd X dX11_armNow_74 ?_
          refine j_letE (fun x15 => ?_)
          refine j_istore X [(4, .int x15), (0, .ref (kB κ + 358)), (1, .int p1), (2, .int p2), (5, .int x5)] dX11_armNow_75 (by decide) rfl ?_
          refine j_iincL X 4 (fun x16 => [(5, .int x16), (4, .int x15), (0, .ref (kB κ + 358)), (1, .int p1), (2, .int p2)]) dX11_armNow_77 rfl (by rfl) (by decide) (fun _ => rfl) (fun x16 => ?_)
          refine j_goto X 55 dX11_armNow_80 (by decide) ?_
          refine j_lv [2, 3, 4, 1, 0] rfl ?_
          exact hrec3 x15 x16
      · refine j_lv [1, 2, 0] rfl ?_
        exact hk2 ()
def f_X11_viewNow (S : jS) (p1 : Int32) (p2 : Int32) : Option (jR Unit) := letE ((((8 : Int32) * p1) + p2)) fun x1 => chk (inb x1 160) ((if (S 384 x1.toNatClampNeg) = (0 : Int32) then jbin0 (f_X11_lacksNeed S p1 p2) (fun v2 _ => joinK (fun (x8 : Int32) => joinK (fun (x11 : Int32) => joinK (fun (x17 : Int32) => some (0, x17, ())) (fun k12 => (if (4 : Int32) ≤ x11 then jbin0 (f_X11_armNow S ((x11 - (4 : Int32))) p1) (fun v13 _ => k12 v13) else k12 x11))) (fun k9 => (if x8 = (-1 : Int32) then k9 (0 : Int32) else chk (inb ((((5 : Int32) * p2) + x8)) 40) (k9 ((S 374 ((((5 : Int32) * p2) + x8)).toNatClampNeg)))))) (fun k3 => (if v2 = (0 : Int32) then jbin0 (f_X11_ruleNow S p1 p2) (fun v4 _ => k3 v4) else k3 (-1 : Int32)))) else chk (inb x1 160) (some (0, (S 385 x1.toNatClampNeg), ()))))
abbrev rm_X11_viewNow : Room := { frames := 1, cells := 0, slots := 0, locals := 26 }
set_option maxHeartbeats 4000000 in
set_option maxRecDepth 100000 in
theorem c_X11_viewNow {l : Launch} {D : va_G} {B t0 : Nat} (hl9 : l.stackTraces = false) (S : jS) (X9 : jMem) (z : Nat → Prop) (p1 : Int32) (p2 : Int32) : jCf l D B t0 yX11_viewNow cX11_viewNow 6 (some .int) rm_X11_viewNow [.ref (B + 358), .int p1, .int p2] (memG 358 387 D B S X9) z (f_X11_viewNow S p1 p2) rvI (fun (S9 : Unit) M9 => M9 = memG 358 387 D B S X9) z := by
  refine jC_of hl9 (me_X11_viewNow).1 [(0, .ref (B + 358)), (1, .int p1), (2, .int p2)] ⟨by decide +kernel, Nat.le_of_ble_eq_true rfl⟩ rfl (fun κ hl hD hB hT X htab hin => ?_)
  subst hl hD hB hT
  have X : jX κ RX11 cX11_viewNow 6 (some .int) := X
  unfold f_X11_viewNow
  refine j_bipush X (8 : Int32) dX11_viewNow_0 (by rfl) ?_
  refine j_iload_n X 1 rfl dX11_viewNow_2 rfl ?_
  refine j_imul X dX11_viewNow_3 ?_
  refine j_iload_n X 2 rfl dX11_viewNow_4 rfl ?_
  refine j_iadd X dX11_viewNow_5 ?_
  refine j_letE (fun x1 => ?_)
  refine j_istore_n X [(3, .int x1), (0, .ref (kB κ + 358)), (1, .int p1), (2, .int p2)] dX11_viewNow_6 rfl (by decide) rfl ?_
  refine j_aload_n X 1 rfl dX11_viewNow_7 rfl ?_
  refine g_getf X 27 kf_358 cf_X11 (by decide) fl_X11_86 dX11_viewNow_8 rfl rfl ?_
  refine j_iload_n X 0 rfl dX11_viewNow_11 rfl ?_
  refine g_iald X 160 kf_384 (by decide) dX11_viewNow_12 (fun h22 => ?_)
  refine j_if_eq X 23 dX11_viewNow_13 (by decide) ?_ ?_
  · refine j_aload_n X 1 rfl dX11_viewNow_23 rfl ?_
    refine j_iload_n X 2 rfl dX11_viewNow_24 rfl ?_
    refine j_iload_n X 3 rfl dX11_viewNow_25 rfl ?_
    refine j_call0V X 0 0 (c_X11_lacksNeed X.tr S X9 z p1 p2) me_X11_lacksNeed ml_X11_173 iv_X11_lacksNeed cf_X11 dX11_viewNow_26 (memG_at kf_358) (rest := []) rfl rfl (by decide) (by decide) (Nat.le_of_ble_eq_true rfl) (fun v2 u20 M19 hM18 => ?_)
    subst M19
    refine j_st (st1 := [.int v2]) rfl ?_
    refine j_join (fun k3 => ∀ (x8 : Int32), J κ 6 rm_X11_viewNow (jQf κ rm_X11_viewNow rvI (fun (S9 : Unit) M9 => M9 = memG 358 387 (kD κ) (kB κ) S X9) z) (k3 x8) (memG 358 387 (kD κ) (kB κ) S X9) z 0 0 [(0, .ref (kB κ + 358)), (1, .int p1), (2, .int p2)] 42 [.int x8]) ?_ (fun k3 hk3 => ?_)
    · intro x8
      refine j_istore X [(4, .int x8), (0, .ref (kB κ + 358)), (1, .int p1), (2, .int p2)] dX11_viewNow_42 (by decide) rfl ?_
      refine j_iload X 0 rfl dX11_viewNow_44 ?_
      refine j_iconst X (-1 : Int32) dX11_viewNow_46 (by rfl) ?_
      refine j_join (fun k9 => ∀ (x11 : Int32), J κ 6 rm_X11_viewNow (jQf κ rm_X11_viewNow rvI (fun (S9 : Unit) M9 => M9 = memG 358 387 (kD κ) (kB κ) S X9) z) (k9 x11) (memG 358 387 (kD κ) (kB κ) S X9) z 0 0 [(0, .ref (kB κ + 358)), (1, .int p1)] 65 [.int x11]) ?_ (fun k9 hk9 => ?_)
      · intro x11
        refine j_istore X [(5, .int x11), (0, .ref (kB κ + 358)), (1, .int p1)] dX11_viewNow_65 (by decide) rfl ?_
        refine j_iload X 0 rfl dX11_viewNow_67 ?_
        refine j_iconst X (4 : Int32) dX11_viewNow_69 (by rfl) ?_
        refine j_join (fun k12 => ∀ (x17 : Int32), J κ 6 rm_X11_viewNow (jQf κ rm_X11_viewNow rvI (fun (S9 : Unit) M9 => M9 = memG 358 387 (kD κ) (kB κ) S X9) z) (k12 x17) (memG 358 387 (kD κ) (kB κ) S X9) z 0 0 [] 87 [.int x17]) ?_ (fun k12 hk12 => ?_)
        · intro x17
          exact j_iret X dX11_viewNow_87 rfl (fun _ h => h)
        · refine j_icmp_ge X 78 dX11_viewNow_70 (by decide) ?_ ?_
          · refine j_aload_n X 1 rfl dX11_viewNow_78 rfl ?_
            refine j_iload X 0 rfl dX11_viewNow_79 ?_
            refine j_iconst X (4 : Int32) dX11_viewNow_81 (by rfl) ?_
            refine j_isub X dX11_viewNow_82 ?_
            refine j_iload_n X 2 rfl dX11_viewNow_83 rfl ?_
            refine j_call0V X 0 0 (c_X11_armNow X.tr S X9 z ((x11 - (4 : Int32))) p1) me_X11_armNow ml_X11_179 iv_X11_armNow cf_X11 dX11_viewNow_84 (memG_at kf_358) (rest := []) rfl rfl (by decide) (by decide) (Nat.le_of_ble_eq_true rfl) (fun v13 u16 M15 hM14 => ?_)
            subst M15
            refine j_st (st1 := [.int v13]) rfl ?_
            refine j_lv [] rfl ?_
            exact hk12 v13
          · refine j_iload X 0 rfl dX11_viewNow_73 ?_
            refine j_goto X 87 dX11_viewNow_75 (by decide) ?_
            refine j_lv [] rfl ?_
            exact hk12 x11
      · refine j_icmp_ne X 54 dX11_viewNow_47 (by decide) ?_ ?_
        · refine j_iconst X (0 : Int32) dX11_viewNow_50 (by rfl) ?_
          refine j_goto X 65 dX11_viewNow_51 (by decide) ?_
          refine j_lv [1, 2] rfl ?_
          exact hk9 (0 : Int32)
        · refine j_aload_n X 1 rfl dX11_viewNow_54 rfl ?_
          refine g_getf X 17 kf_358 cf_X11 (by decide) fl_X11_56 dX11_viewNow_55 rfl rfl ?_
          refine j_iconst X (5 : Int32) dX11_viewNow_58 (by rfl) ?_
          refine j_iload_n X 3 rfl dX11_viewNow_59 rfl ?_
          refine j_imul X dX11_viewNow_60 ?_
          refine j_iload X 0 rfl dX11_viewNow_61 ?_
          refine j_iadd X dX11_viewNow_63 ?_
          refine g_iald X 40 kf_374 (by decide) dX11_viewNow_64 (fun h10 => ?_)
          refine j_lv [1, 2] rfl ?_
          exact hk9 ((S 374 ((((5 : Int32) * p2) + x8)).toNatClampNeg))
    · refine j_if_eq X 36 dX11_viewNow_29 (by decide) ?_ ?_
      · refine j_aload_n X 1 rfl dX11_viewNow_36 rfl ?_
        refine j_iload_n X 2 rfl dX11_viewNow_37 rfl ?_
        refine j_iload_n X 3 rfl dX11_viewNow_38 rfl ?_
        refine j_call0V X 0 0 (c_X11_ruleNow X.tr S X9 z p1 p2) me_X11_ruleNow ml_X11_176 iv_X11_ruleNow cf_X11 dX11_viewNow_39 (memG_at kf_358) (rest := []) rfl rfl (by decide) (by decide) (Nat.le_of_ble_eq_true rfl) (fun v4 u7 M6 hM5 => ?_)
        subst M6
        refine j_st (st1 := [.int v4]) rfl ?_
        refine j_lv [1, 2, 3] rfl ?_
        exact hk3 v4
      · refine j_iconst X (-1 : Int32) dX11_viewNow_32 (by rfl) ?_
        refine j_goto X 42 dX11_viewNow_33 (by decide) ?_
        refine j_lv [1, 2, 3] rfl ?_
        exact hk3 (-1 : Int32)
  · refine j_aload_n X 1 rfl dX11_viewNow_16 rfl ?_
    refine g_getf X 28 kf_358 cf_X11 (by decide) fl_X11_89 dX11_viewNow_17 rfl rfl ?_
    refine j_iload_n X 0 rfl dX11_viewNow_20 rfl ?_
    refine g_iald X 160 kf_385 (by decide) dX11_viewNow_21 (fun h21 => ?_)
    exact j_iret X dX11_viewNow_22 rfl (fun _ h => h)
def f_X11_findViews (S : jS) : Option (jR jS) := jbin0 (f_X11_gather S) (fun _ S1 => loopK (fun (rec2 : jS → Int32 → Option (jR jS)) (S3 : jS) (x4 : Int32) => (if (8 : Int32) ≤ x4 then some (0, (0 : Int32), S3) else loopK (fun (rec5 : jS → Int32 → Option (jR jS)) (S6 : jS) (x7 : Int32) => (if (160 : Int32) ≤ x7 then letE (x4 + (1 : Int32)) fun x8 => rec2 S6 x8 else jbin0 (f_X11_viewNow S6 ((x7 / (8 : Int32))) ((x7 - x7 / (8 : Int32) * (8 : Int32)))) (fun v9 _ => chk (inb x7 160) (letE (jset S6 376 x7.toNatClampNeg v9) fun S10 => letE (x7 + (1 : Int32)) fun x11 => rec5 S10 x11)))) (fun _ _ => none) 1000 S3 (0 : Int32))) (fun _ _ => none) 1000 S1 (0 : Int32))
abbrev rm_X11_findViews : Room := { frames := 6, cells := 0, slots := 0, locals := 144 }
set_option maxHeartbeats 4000000 in
set_option maxRecDepth 100000 in
theorem c_X11_findViews {l : Launch} {D : va_G} {B t0 : Nat} (hl9 : l.stackTraces = false) (S : jS) (X9 : jMem) (z : Nat → Prop) : jCf l D B t0 yX11_findViews cX11_findViews 3 none rm_X11_findViews [.ref (B + 358)] (memG 358 387 D B S X9) z (f_X11_findViews S) rvV (fun S9 M9 => M9 = memG 358 387 D B S9 X9) z := by
  refine jC_of hl9 (me_X11_findViews).1 [(0, .ref (B + 358))] ⟨by decide +kernel, Nat.le_of_ble_eq_true rfl⟩ rfl (fun κ hl hD hB hT X htab hin => ?_)
  subst hl hD hB hT
  have X : jX κ RX11 cX11_findViews 3 none := X
  unfold f_X11_findViews
  refine j_aload_n X 0 rfl dX11_findViews_0 rfl ?_
  refine j_call0V X 0 0 (c_X11_gather X.tr S X9 z) me_X11_gather ml_X11_155 iv_X11_gather cf_X11 dX11_findViews_1 (memG_at kf_358) (rest := []) rfl rfl (by decide) (by decide) (Nat.le_of_ble_eq_true rfl) (fun v18 S1 M17 hM16 => ?_)
  subst M17
  refine j_st (st1 := []) rfl ?_
  refine j_iconst X (0 : Int32) dX11_findViews_4 (by rfl) ?_
  refine j_istore_n X [(1, .int (0 : Int32)), (0, .ref (kB κ + 358))] dX11_findViews_5 rfl (by decide) rfl ?_
  refine j_lv [1, 0] rfl ?_
  refine j_loop (fun (k : jS → Int32 → Option (jR jS)) => ∀ (S3 : jS) (x4 : Int32), J κ 3 rm_X11_findViews (jQf κ rm_X11_findViews rvV (fun S9 M9 => M9 = memG 358 387 (kD κ) (kB κ) S9 X9) z) (k S3 x4) (memG 358 387 (kD κ) (kB κ) S3 X9) z 0 0 [(0, .ref (kB κ + 358)), (1, .int x4)] 6 []) (fun _ _ => j_none) (fun rec2 hrec2 => ?_) 1000 _ _
  intro S3 x4
  refine j_iload_n X 1 rfl dX11_findViews_6 rfl ?_
  refine j_bipush X (8 : Int32) dX11_findViews_7 (by rfl) ?_
  refine j_icmp_ge X 51 dX11_findViews_9 (by decide) ?_ ?_
  · exact j_vret X dX11_findViews_51 rfl (fun _ h => h)
  · refine j_iconst X (0 : Int32) dX11_findViews_12 (by rfl) ?_
    refine j_istore_n X [(2, .int (0 : Int32)), (0, .ref (kB κ + 358)), (1, .int x4)] dX11_findViews_13 rfl (by decide) rfl ?_
    refine j_lv [1, 2, 0] rfl ?_
    refine j_loop (fun (k : jS → Int32 → Option (jR jS)) => ∀ (S6 : jS) (x7 : Int32), J κ 3 rm_X11_findViews (jQf κ rm_X11_findViews rvV (fun S9 M9 => M9 = memG 358 387 (kD κ) (kB κ) S9 X9) z) (k S6 x7) (memG 358 387 (kD κ) (kB κ) S6 X9) z 0 0 [(0, .ref (kB κ + 358)), (1, .int x4), (2, .int x7)] 14 []) (fun _ _ => j_none) (fun rec5 hrec5 => ?_) 1000 _ _
    intro S6 x7
    refine j_iload_n X 2 rfl dX11_findViews_14 rfl ?_
    refine j_sipush X (160 : Int32) dX11_findViews_15 (by rfl) ?_
    refine j_icmp_ge X 45 dX11_findViews_18 (by decide) ?_ ?_
    · refine j_iincL X 1 (fun x8 => [(1, .int x8), (0, .ref (kB κ + 358)), (2, .int x7)]) dX11_findViews_45 rfl (by rfl) (by decide) (fun _ => rfl) (fun x8 => ?_)
      refine j_goto X 6 dX11_findViews_48 (by decide) ?_
      refine j_lv [1, 0] rfl ?_
      exact hrec2 S6 x8
    · refine j_aload_n X 0 rfl dX11_findViews_21 rfl ?_
      refine g_getf X 19 kf_358 cf_X11 (by decide) fl_X11_62 dX11_findViews_22 rfl rfl ?_
      refine j_iload_n X 2 rfl dX11_findViews_25 rfl ?_
      refine j_aload_n X 0 rfl dX11_findViews_26 rfl ?_
      refine j_iload_n X 2 rfl dX11_findViews_27 rfl ?_
      refine j_bipush X (8 : Int32) dX11_findViews_28 (by rfl) ?_
      refine j_idiv X (by decide) dX11_findViews_30 ?_
      refine j_iload_n X 2 rfl dX11_findViews_31 rfl ?_
      refine j_bipush X (8 : Int32) dX11_findViews_32 (by rfl) ?_
      refine j_irem X (by decide) dX11_findViews_34 ?_
      refine j_call0V X 0 0 (c_X11_viewNow X.tr S6 X9 z ((x7 / (8 : Int32))) ((x7 - x7 / (8 : Int32) * (8 : Int32)))) me_X11_viewNow ml_X11_182 iv_X11_viewNow cf_X11 dX11_findViews_35 (memG_at kf_358) (rest := [.int x7, .ref (kB κ + 376)]) rfl rfl (by decide) (by decide) (Nat.le_of_ble_eq_true rfl) (fun v9 u15 M14 hM13 => ?_)
      subst M14
      refine j_st (st1 := [.int v9, .int x7, .ref (kB κ + 376)]) rfl ?_
      refine g_iast X 160 kf_376 (by decide) dX11_findViews_38 (fun h12 S10 => ?_)
      refine j_iincL X 2 (fun x11 => [(2, .int x11), (0, .ref (kB κ + 358)), (1, .int x4)]) dX11_findViews_39 rfl (by rfl) (by decide) (fun _ => rfl) (fun x11 => ?_)
      refine j_goto X 14 dX11_findViews_42 (by decide) ?_
      refine j_lv [1, 2, 0] rfl ?_
      exact hrec5 S10 x11
def f_X11_wouldMove (S : jS) (p1 : Int32) : Option (jR jS) := jbin0 (f_X11_findViews S) (fun _ S1 => loopK (fun (rec2 : jS → Int32 → Option (jR jS)) (S3 : jS) (x4 : Int32) => (if (160 : Int32) ≤ x4 then jbin0 (f_X11_isAudience p1) (fun v5 _ => joinK (fun (S11 : jS) (x12 : Int32) => jbin0 (f_X11_goesWell S11 x12) (fun v13 S14 => (if v13 = (0 : Int32) then some (0, (0 : Int32), S14) else jbin0 (f_X11_findViews S14) (fun _ S15 => jbin0 (f_X11_layBack S15 p1) (fun _ S16 => loopK (fun (rec17 : Int32 → Int32 → Option (jR jS)) (x18 : Int32) (x19 : Int32) => (if (20 : Int32) ≤ x19 then some (0, x18, S16) else loopK (fun (rec20 : Int32 → Int32 → Option (jR jS)) (x21 : Int32) (x22 : Int32) => (if (8 : Int32) ≤ x22 then joinK (fun (x24 : Int32) => letE (x18 + x24) fun x25 => letE (x19 + (1 : Int32)) fun x26 => rec17 x25 x26) (fun k23 => (if x21 = (0 : Int32) then k23 (0 : Int32) else k23 (1 : Int32))) else joinK (fun (x31 : Int32) => letE (x22 + (1 : Int32)) fun x32 => rec20 x31 x32) (fun k27 => joinK (fun (_ : Unit) => k27 (1 : Int32)) (fun k28 => (if x21 = (0 : Int32) then chk (inb ((((8 : Int32) * x19) + x22)) 160) (chk (inb ((((8 : Int32) * x19) + x22)) 160) ((if (S16 376 ((((8 : Int32) * x19) + x22)).toNatClampNeg) = (S16 377 ((((8 : Int32) * x19) + x22)).toNatClampNeg) then k27 (0 : Int32) else k28 ()))) else k28 ()))))) (fun _ _ => none) 1000 (0 : Int32) (0 : Int32))) (fun _ _ => none) 1000 (0 : Int32) (0 : Int32)))))) (fun k6 => (if v5 = (0 : Int32) then k6 S3 (1 : Int32) else jbin0 (f_X11_canLay S3 p1) (fun v7 S8 => (if v7 = (0 : Int32) then k6 S8 (2 : Int32) else k6 S8 (0 : Int32)))))) else chk (inb x4 160) (chk (inb x4 160) (letE (jset S3 377 x4.toNatClampNeg (S3 376 x4.toNatClampNeg)) fun S44 => letE (x4 + (1 : Int32)) fun x45 => rec2 S44 x45)))) (fun _ _ => none) 1000 S1 (0 : Int32))
abbrev rm_X11_wouldMove : Room := { frames := 7, cells := 0, slots := 0, locals := 166 }
set_option maxHeartbeats 4000000 in
set_option maxRecDepth 100000 in
theorem c_X11_wouldMove {l : Launch} {D : va_G} {B t0 : Nat} (hl9 : l.stackTraces = false) (S : jS) (X9 : jMem) (z : Nat → Prop) (p1 : Int32) : jCf l D B t0 yX11_wouldMove cX11_wouldMove 6 (some .int) rm_X11_wouldMove [.ref (B + 358), .int p1] (memG 358 387 D B S X9) z (f_X11_wouldMove S p1) rvI (fun S9 M9 => M9 = memG 358 387 D B S9 X9) z := by
  refine jC_of hl9 (me_X11_wouldMove).1 [(0, .ref (B + 358)), (1, .int p1)] ⟨by decide +kernel, Nat.le_of_ble_eq_true rfl⟩ rfl (fun κ hl hD hB hT X htab hin => ?_)
  subst hl hD hB hT
  have X : jX κ RX11 cX11_wouldMove 6 (some .int) := X
  unfold f_X11_wouldMove
  refine j_aload_n X 0 rfl dX11_wouldMove_0 rfl ?_
  refine j_call0V X 0 0 (c_X11_findViews X.tr S X9 z) me_X11_findViews ml_X11_164 iv_X11_findViews cf_X11 dX11_wouldMove_1 (memG_at kf_358) (rest := []) rfl rfl (by decide) (by decide) (Nat.le_of_ble_eq_true rfl) (fun v50 S1 M49 hM48 => ?_)
  subst M49
  refine j_st (st1 := []) rfl ?_
  refine j_iconst X (0 : Int32) dX11_wouldMove_4 (by rfl) ?_
  refine j_istore_n X [(2, .int (0 : Int32)), (0, .ref (kB κ + 358)), (1, .int p1)] dX11_wouldMove_5 rfl (by decide) rfl ?_
  refine j_lv [1, 2, 0] rfl ?_
  refine j_loop (fun (k : jS → Int32 → Option (jR jS)) => ∀ (S3 : jS) (x4 : Int32), J κ 6 rm_X11_wouldMove (jQf κ rm_X11_wouldMove rvI (fun S9 M9 => M9 = memG 358 387 (kD κ) (kB κ) S9 X9) z) (k S3 x4) (memG 358 387 (kD κ) (kB κ) S3 X9) z 0 0 [(0, .ref (kB κ + 358)), (1, .int p1), (2, .int x4)] 6 []) (fun _ _ => j_none) (fun rec2 hrec2 => ?_) 1000 _ _
  intro S3 x4
  refine j_iload_n X 2 rfl dX11_wouldMove_6 rfl ?_
  refine j_sipush X (160 : Int32) dX11_wouldMove_7 (by rfl) ?_
  refine j_icmp_ge X 31 dX11_wouldMove_10 (by decide) ?_ ?_
  · refine j_aload_n X 0 rfl dX11_wouldMove_31 rfl ?_
    refine j_iload_n X 1 rfl dX11_wouldMove_32 rfl ?_
    refine j_call0S X 0 0 (c_X11_isAudience X.tr (memG 358 387 (kD κ) (kB κ) S3 X9) z p1) me_X11_isAudience ml_X11_110 st_X11_isAudience dX11_wouldMove_33 (rest := [.ref (kB κ + 358)]) rfl rfl (by decide) (by decide) (Nat.le_of_ble_eq_true rfl) (fun v5 u43 M42 hM41 => ?_)
    subst M42
    refine j_st (st1 := [.int v5, .ref (kB κ + 358)]) rfl ?_
    refine j_join (fun k6 => ∀ (S11 : jS) (x12 : Int32), J κ 6 rm_X11_wouldMove (jQf κ rm_X11_wouldMove rvI (fun S9 M9 => M9 = memG 358 387 (kD κ) (kB κ) S9 X9) z) (k6 S11 x12) (memG 358 387 (kD κ) (kB κ) S11 X9) z 0 0 [(0, .ref (kB κ + 358)), (1, .int p1)] 56 [.int x12, .ref (kB κ + 358)]) ?_ (fun k6 hk6 => ?_)
    · intro S11 x12
      refine j_call0V X 0 0 (c_X11_goesWell X.tr S11 X9 z x12) me_X11_goesWell ml_X11_107 iv_X11_goesWell cf_X11 dX11_wouldMove_56 (memG_at kf_358) (rest := []) rfl rfl (by decide) (by decide) (Nat.le_of_ble_eq_true rfl) (fun v13 S14 M40 hM39 => ?_)
      subst M40
      refine j_st (st1 := [.int v13]) rfl ?_
      refine j_if_ne X 64 dX11_wouldMove_59 (by decide) ?_ ?_
      · refine j_iconst X (0 : Int32) dX11_wouldMove_62 (by rfl) ?_
        exact j_iret X dX11_wouldMove_63 rfl (fun _ h => h)
      · refine j_aload_n X 0 rfl dX11_wouldMove_64 rfl ?_
        refine j_call0V X 0 0 (c_X11_findViews X.tr S14 X9 z) me_X11_findViews ml_X11_164 iv_X11_findViews cf_X11 dX11_wouldMove_65 (memG_at kf_358) (rest := []) rfl rfl (by decide) (by decide) (Nat.le_of_ble_eq_true rfl) (fun v38 S15 M37 hM36 => ?_)
        subst M37
        refine j_st (st1 := []) rfl ?_
        refine j_aload_n X 0 rfl dX11_wouldMove_68 rfl ?_
        refine j_iload_n X 1 rfl dX11_wouldMove_69 rfl ?_
        refine j_call0V X 0 0 (c_X11_layBack X.tr S15 X9 z p1) me_X11_layBack ml_X11_152 iv_X11_layBack cf_X11 dX11_wouldMove_70 (memG_at kf_358) (rest := []) rfl rfl (by decide) (by decide) (Nat.le_of_ble_eq_true rfl) (fun v35 S16 M34 hM33 => ?_)
        subst M34
        refine j_st (st1 := []) rfl ?_
        refine j_iconst X (0 : Int32) dX11_wouldMove_73 (by rfl) ?_
        refine j_istore_n X [(2, .int (0 : Int32)), (0, .ref (kB κ + 358)), (1, .int p1)] dX11_wouldMove_74 rfl (by decide) rfl ?_
        refine j_iconst X (0 : Int32) dX11_wouldMove_75 (by rfl) ?_
        refine j_istore_n X [(3, .int (0 : Int32)), (2, .int (0 : Int32)), (0, .ref (kB κ + 358)), (1, .int p1)] dX11_wouldMove_76 rfl (by decide) rfl ?_
        refine j_lv [2, 1, 0] rfl ?_
        refine j_loop (fun (k : Int32 → Int32 → Option (jR jS)) => ∀ (x18 : Int32) (x19 : Int32), J κ 6 rm_X11_wouldMove (jQf κ rm_X11_wouldMove rvI (fun S9 M9 => M9 = memG 358 387 (kD κ) (kB κ) S9 X9) z) (k x18 x19) (memG 358 387 (kD κ) (kB κ) S16 X9) z 0 0 [(0, .ref (kB κ + 358)), (2, .int x18), (3, .int x19)] 77 []) (fun _ _ => j_none) (fun rec17 hrec17 => ?_) 1000 _ _
        intro x18 x19
        refine j_iload_n X 2 rfl dX11_wouldMove_77 rfl ?_
        refine j_bipush X (20 : Int32) dX11_wouldMove_78 (by rfl) ?_
        refine j_icmp_ge X 160 dX11_wouldMove_80 (by decide) ?_ ?_
        · refine j_iload_n X 1 rfl dX11_wouldMove_160 rfl ?_
          exact j_iret X dX11_wouldMove_161 rfl (fun _ h => h)
        · refine j_iconst X (0 : Int32) dX11_wouldMove_83 (by rfl) ?_
          refine j_istore X [(4, .int (0 : Int32)), (0, .ref (kB κ + 358)), (2, .int x18), (3, .int x19)] dX11_wouldMove_84 (by decide) rfl ?_
          refine j_iconst X (0 : Int32) dX11_wouldMove_86 (by rfl) ?_
          refine j_istore X [(5, .int (0 : Int32)), (4, .int (0 : Int32)), (0, .ref (kB κ + 358)), (2, .int x18), (3, .int x19)] dX11_wouldMove_87 (by decide) rfl ?_
          refine j_lv [2, 3, 4, 1, 0] rfl ?_
          refine j_loop (fun (k : Int32 → Int32 → Option (jR jS)) => ∀ (x21 : Int32) (x22 : Int32), J κ 6 rm_X11_wouldMove (jQf κ rm_X11_wouldMove rvI (fun S9 M9 => M9 = memG 358 387 (kD κ) (kB κ) S9 X9) z) (k x21 x22) (memG 358 387 (kD κ) (kB κ) S16 X9) z 0 0 [(0, .ref (kB κ + 358)), (2, .int x18), (3, .int x19), (4, .int x21), (5, .int x22)] 89 []) (fun _ _ => j_none) (fun rec20 hrec20 => ?_) 1000 _ _
          intro x21 x22
          refine j_iload X 4 rfl dX11_wouldMove_89 ?_
          refine j_bipush X (8 : Int32) dX11_wouldMove_91 (by rfl) ?_
          refine j_icmp_ge X 141 dX11_wouldMove_93 (by decide) ?_ ?_
          · refine j_iload_n X 1 rfl dX11_wouldMove_141 rfl ?_
            refine j_iload X 3 rfl dX11_wouldMove_142 ?_
            refine j_join (fun k23 => ∀ (x24 : Int32), J κ 6 rm_X11_wouldMove (jQf κ rm_X11_wouldMove rvI (fun S9 M9 => M9 = memG 358 387 (kD κ) (kB κ) S9 X9) z) (k23 x24) (memG 358 387 (kD κ) (kB κ) S16 X9) z 0 0 [(0, .ref (kB κ + 358)), (3, .int x19)] 152 [.int x24, .int x18]) ?_ (fun k23 hk23 => ?_)
            · intro x24
              refine j_iadd X dX11_wouldMove_152 ?_
              refine j_letE (fun x25 => ?_)
              refine j_istore_n X [(2, .int x25), (0, .ref (kB κ + 358)), (3, .int x19)] dX11_wouldMove_153 rfl (by decide) rfl ?_
              refine j_iincL X 2 (fun x26 => [(3, .int x26), (2, .int x25), (0, .ref (kB κ + 358))]) dX11_wouldMove_154 rfl (by rfl) (by decide) (fun _ => rfl) (fun x26 => ?_)
              refine j_goto X 77 dX11_wouldMove_157 (by decide) ?_
              refine j_lv [2, 1, 0] rfl ?_
              exact hrec17 x25 x26
            · refine j_if_eq X 151 dX11_wouldMove_144 (by decide) ?_ ?_
              · refine j_iconst X (0 : Int32) dX11_wouldMove_151 (by rfl) ?_
                refine j_lv [0, 2] rfl ?_
                exact hk23 (0 : Int32)
              · refine j_iconst X (1 : Int32) dX11_wouldMove_147 (by rfl) ?_
                refine j_goto X 152 dX11_wouldMove_148 (by decide) ?_
                refine j_lv [0, 2] rfl ?_
                exact hk23 (1 : Int32)
          · refine j_iload X 3 rfl dX11_wouldMove_96 ?_
            refine j_join (fun k27 => ∀ (x31 : Int32), J κ 6 rm_X11_wouldMove (jQf κ rm_X11_wouldMove rvI (fun S9 M9 => M9 = memG 358 387 (kD κ) (kB κ) S9 X9) z) (k27 x31) (memG 358 387 (kD κ) (kB κ) S16 X9) z 0 0 [(0, .ref (kB κ + 358)), (2, .int x18), (3, .int x19), (5, .int x22)] 133 [.int x31]) ?_ (fun k27 hk27 => ?_)
            · intro x31
              refine j_istore X [(4, .int x31), (0, .ref (kB κ + 358)), (2, .int x18), (3, .int x19), (5, .int x22)] dX11_wouldMove_133 (by decide) rfl ?_
              refine j_iincL X 4 (fun x32 => [(5, .int x32), (4, .int x31), (0, .ref (kB κ + 358)), (2, .int x18), (3, .int x19)]) dX11_wouldMove_135 rfl (by rfl) (by decide) (fun _ => rfl) (fun x32 => ?_)
              refine j_goto X 89 dX11_wouldMove_138 (by decide) ?_
              refine j_lv [2, 3, 4, 1, 0] rfl ?_
              exact hrec20 x31 x32
            · refine j_join (fun k28 => ∀ (_ : Unit), J κ 6 rm_X11_wouldMove (jQf κ rm_X11_wouldMove rvI (fun S9 M9 => M9 = memG 358 387 (kD κ) (kB κ) S9 X9) z) (k28 ()) (memG 358 387 (kD κ) (kB κ) S16 X9) z 0 0 [(0, .ref (kB κ + 358)), (2, .int x18), (3, .int x19), (5, .int x22)] 128 []) ?_ (fun k28 hk28 => ?_)
              · intro _
                refine j_iconst X (1 : Int32) dX11_wouldMove_128 (by rfl) ?_
                refine j_goto X 133 dX11_wouldMove_129 (by decide) ?_
                exact hk27 (1 : Int32)
              · refine j_if_ne X 128 dX11_wouldMove_98 (by decide) ?_ ?_
                · refine j_aload_n X 0 rfl dX11_wouldMove_101 rfl ?_
                  refine g_getf X 19 kf_358 cf_X11 (by decide) fl_X11_62 dX11_wouldMove_102 rfl rfl ?_
                  refine j_bipush X (8 : Int32) dX11_wouldMove_105 (by rfl) ?_
                  refine j_iload_n X 2 rfl dX11_wouldMove_107 rfl ?_
                  refine j_imul X dX11_wouldMove_108 ?_
                  refine j_iload X 4 rfl dX11_wouldMove_109 ?_
                  refine j_iadd X dX11_wouldMove_111 ?_
                  refine g_iald X 160 kf_376 (by decide) dX11_wouldMove_112 (fun h30 => ?_)
                  refine j_aload_n X 0 rfl dX11_wouldMove_113 rfl ?_
                  refine g_getf X 20 kf_358 cf_X11 (by decide) fl_X11_65 dX11_wouldMove_114 rfl rfl ?_
                  refine j_bipush X (8 : Int32) dX11_wouldMove_117 (by rfl) ?_
                  refine j_iload_n X 2 rfl dX11_wouldMove_119 rfl ?_
                  refine j_imul X dX11_wouldMove_120 ?_
                  refine j_iload X 4 rfl dX11_wouldMove_121 ?_
                  refine j_iadd X dX11_wouldMove_123 ?_
                  refine g_iald X 160 kf_377 (by decide) dX11_wouldMove_124 (fun h29 => ?_)
                  refine j_icmp_eq X 132 dX11_wouldMove_125 (by decide) ?_ ?_
                  · refine j_iconst X (0 : Int32) dX11_wouldMove_132 (by rfl) ?_
                    refine j_lv [0, 1, 2, 4] rfl ?_
                    exact hk27 (0 : Int32)
                  · refine j_lv [0, 1, 2, 4] rfl ?_
                    exact hk28 ()
                · refine j_lv [0, 1, 2, 4] rfl ?_
                  exact hk28 ()
    · refine j_if_ne X 43 dX11_wouldMove_36 (by decide) ?_ ?_
      · refine j_iconst X (1 : Int32) dX11_wouldMove_39 (by rfl) ?_
        refine j_goto X 56 dX11_wouldMove_40 (by decide) ?_
        refine j_lv [0, 1] rfl ?_
        exact hk6 S3 (1 : Int32)
      · refine j_aload_n X 0 rfl dX11_wouldMove_43 rfl ?_
        refine j_iload_n X 1 rfl dX11_wouldMove_44 rfl ?_
        refine j_call0V X 0 0 (c_X11_canLay X.tr S3 X9 z p1) me_X11_canLay ml_X11_158 iv_X11_canLay cf_X11 dX11_wouldMove_45 (memG_at kf_358) (rest := [.ref (kB κ + 358)]) rfl rfl (by decide) (by decide) (Nat.le_of_ble_eq_true rfl) (fun v7 S8 M10 hM9 => ?_)
        subst M10
        refine j_st (st1 := [.int v7, .ref (kB κ + 358)]) rfl ?_
        refine j_if_eq X 55 dX11_wouldMove_48 (by decide) ?_ ?_
        · refine j_iconst X (2 : Int32) dX11_wouldMove_55 (by rfl) ?_
          refine j_lv [0, 1] rfl ?_
          exact hk6 S8 (2 : Int32)
        · refine j_iconst X (0 : Int32) dX11_wouldMove_51 (by rfl) ?_
          refine j_goto X 56 dX11_wouldMove_52 (by decide) ?_
          refine j_lv [0, 1] rfl ?_
          exact hk6 S8 (0 : Int32)
  · refine j_aload_n X 0 rfl dX11_wouldMove_13 rfl ?_
    refine g_getf X 20 kf_358 cf_X11 (by decide) fl_X11_65 dX11_wouldMove_14 rfl rfl ?_
    refine j_iload_n X 2 rfl dX11_wouldMove_17 rfl ?_
    refine j_aload_n X 0 rfl dX11_wouldMove_18 rfl ?_
    refine g_getf X 19 kf_358 cf_X11 (by decide) fl_X11_62 dX11_wouldMove_19 rfl rfl ?_
    refine j_iload_n X 2 rfl dX11_wouldMove_22 rfl ?_
    refine g_iald X 160 kf_376 (by decide) dX11_wouldMove_23 (fun h47 => ?_)
    refine g_iast X 160 kf_377 (by decide) dX11_wouldMove_24 (fun h46 S44 => ?_)
    refine j_iincL X 2 (fun x45 => [(2, .int x45), (0, .ref (kB κ + 358)), (1, .int p1)]) dX11_wouldMove_25 rfl (by rfl) (by decide) (fun _ => rfl) (fun x45 => ?_)
    refine j_goto X 6 dX11_wouldMove_28 (by decide) ?_
    refine j_lv [1, 2, 0] rfl ?_
    exact hrec2 S44 x45
def f_X11_isIn (S : jS) (p1 : Int32) (p2 : Int32) : Option (jR jS) := jbin0 (f_X11_isAudience p1) (fun v1 _ => joinK (fun (x8 : Int32) => jbin0 (f_X11_goesWell S x8) (fun v9 S10 => (if v9 = (0 : Int32) then chk (isb (0 : Int32)) (some (0, (0 : Int32), S10)) else jbin0 (f_X11_gather S10) (fun _ S11 => chk (inb p1 6) (joinK (fun (x13 : Int32) => chk (isb x13) (some (0, x13, S11))) (fun k12 => (if (((S11 367 p1.toNatClampNeg) >>> (p2 &&& 31)) &&& (1 : Int32)) = (1 : Int32) then k12 (1 : Int32) else k12 (0 : Int32)))))))) (fun k2 => joinK (fun (_ : Unit) => k2 (1 : Int32)) (fun k3 => (if v1 = (0 : Int32) then k3 () else jbin0 (f_X11_isPerson p2) (fun v4 _ => (if v4 = (0 : Int32) then k3 () else k2 (0 : Int32)))))))
abbrev rm_X11_isIn : Room := { frames := 6, cells := 0, slots := 0, locals := 144 }
set_option maxHeartbeats 4000000 in
set_option maxRecDepth 100000 in
theorem c_X11_isIn {l : Launch} {D : va_G} {B t0 : Nat} (hl9 : l.stackTraces = false) (S : jS) (X9 : jMem) (z : Nat → Prop) (p1 : Int32) (p2 : Int32) : jCf l D B t0 yX11_isIn cX11_isIn 3 (some .boolean) rm_X11_isIn [.ref (B + 358), .int p1, .int p2] (memG 358 387 D B S X9) z (f_X11_isIn S p1 p2) rvI (fun S9 M9 => M9 = memG 358 387 D B S9 X9) z := by
  refine jC_of hl9 (me_X11_isIn).1 [(0, .ref (B + 358)), (1, .int p1), (2, .int p2)] ⟨by decide +kernel, Nat.le_of_ble_eq_true rfl⟩ rfl (fun κ hl hD hB hT X htab hin => ?_)
  subst hl hD hB hT
  have X : jX κ RX11 cX11_isIn 3 (some .boolean) := X
  unfold f_X11_isIn
  refine j_aload_n X 0 rfl dX11_isIn_0 rfl ?_
  refine j_iload_n X 1 rfl dX11_isIn_1 rfl ?_
  refine j_call0S X 0 0 (c_X11_isAudience X.tr (memG 358 387 (kD κ) (kB κ) S X9) z p1) me_X11_isAudience ml_X11_110 st_X11_isAudience dX11_isIn_2 (rest := [.ref (kB κ + 358)]) rfl rfl (by decide) (by decide) (Nat.le_of_ble_eq_true rfl) (fun v1 u22 M21 hM20 => ?_)
  subst M21
  refine j_st (st1 := [.int v1, .ref (kB κ + 358)]) rfl ?_
  refine j_join (fun k2 => ∀ (x8 : Int32), J κ 3 rm_X11_isIn (jQf κ rm_X11_isIn rvI (fun S9 M9 => M9 = memG 358 387 (kD κ) (kB κ) S9 X9) z) (k2 x8) (memG 358 387 (kD κ) (kB κ) S X9) z 0 0 [(0, .ref (kB κ + 358)), (1, .int p1), (2, .int p2)] 20 [.int x8, .ref (kB κ + 358)]) ?_ (fun k2 hk2 => ?_)
  · intro x8
    refine j_call0V X 0 0 (c_X11_goesWell X.tr S X9 z x8) me_X11_goesWell ml_X11_107 iv_X11_goesWell cf_X11 dX11_isIn_20 (memG_at kf_358) (rest := []) rfl rfl (by decide) (by decide) (Nat.le_of_ble_eq_true rfl) (fun v9 S10 M19 hM18 => ?_)
    subst M19
    refine j_st (st1 := [.int v9]) rfl ?_
    refine j_if_ne X 28 dX11_isIn_23 (by decide) ?_ ?_
    · refine j_iconst X (0 : Int32) dX11_isIn_26 (by rfl) ?_
      exact j_zret X dX11_isIn_27 rfl (fun _ h => h)
    · refine j_aload_n X 0 rfl dX11_isIn_28 rfl ?_
      refine j_call0V X 0 0 (c_X11_gather X.tr S10 X9 z) me_X11_gather ml_X11_155 iv_X11_gather cf_X11 dX11_isIn_29 (memG_at kf_358) (rest := []) rfl rfl (by decide) (by decide) (Nat.le_of_ble_eq_true rfl) (fun v17 S11 M16 hM15 => ?_)
      subst M16
      refine j_st (st1 := []) rfl ?_
      refine j_aload_n X 0 rfl dX11_isIn_32 rfl ?_
      refine g_getf X 10 kf_358 cf_X11 (by decide) fl_X11_34 dX11_isIn_33 rfl rfl ?_
      refine j_iload_n X 1 rfl dX11_isIn_36 rfl ?_
      refine g_iald X 6 kf_367 (by decide) dX11_isIn_37 (fun h14 => ?_)
      refine j_iload_n X 2 rfl dX11_isIn_38 rfl ?_
      refine j_ishr X dX11_isIn_39 ?_
      refine j_iconst X (1 : Int32) dX11_isIn_40 (by rfl) ?_
      refine j_iand X dX11_isIn_41 ?_
      refine j_iconst X (1 : Int32) dX11_isIn_42 (by rfl) ?_
      refine j_join (fun k12 => ∀ (x13 : Int32), J κ 3 rm_X11_isIn (jQf κ rm_X11_isIn rvI (fun S9 M9 => M9 = memG 358 387 (kD κ) (kB κ) S9 X9) z) (k12 x13) (memG 358 387 (kD κ) (kB κ) S11 X9) z 0 0 [] 51 [.int x13]) ?_ (fun k12 hk12 => ?_)
      · intro x13
        exact j_zret X dX11_isIn_51 rfl (fun _ h => h)
      · refine j_icmp_ne X 50 dX11_isIn_43 (by decide) ?_ ?_
        · refine j_iconst X (1 : Int32) dX11_isIn_46 (by rfl) ?_
          refine j_goto X 51 dX11_isIn_47 (by decide) ?_
          refine j_lv [] rfl ?_
          exact hk12 (1 : Int32)
        · refine j_iconst X (0 : Int32) dX11_isIn_50 (by rfl) ?_
          refine j_lv [] rfl ?_
          exact hk12 (0 : Int32)
  · refine j_join (fun k3 => ∀ (_ : Unit), J κ 3 rm_X11_isIn (jQf κ rm_X11_isIn rvI (fun S9 M9 => M9 = memG 358 387 (kD κ) (kB κ) S9 X9) z) (k3 ()) (memG 358 387 (kD κ) (kB κ) S X9) z 0 0 [(0, .ref (kB κ + 358)), (1, .int p1), (2, .int p2)] 19 [.ref (kB κ + 358)]) ?_ (fun k3 hk3 => ?_)
    · intro _
      refine j_iconst X (1 : Int32) dX11_isIn_19 (by rfl) ?_
      exact hk2 (1 : Int32)
    · refine j_if_eq X 19 dX11_isIn_5 (by decide) ?_ ?_
      · exact hk3 ()
      · refine j_iload_n X 2 rfl dX11_isIn_8 rfl ?_
        refine j_call0S X 0 0 (c_X11_isPerson X.tr (memG 358 387 (kD κ) (kB κ) S X9) z p2) me_X11_isPerson ml_X11_103 st_X11_isPerson dX11_isIn_9 (rest := [.ref (kB κ + 358)]) rfl rfl (by decide) (by decide) (Nat.le_of_ble_eq_true rfl) (fun v4 u7 M6 hM5 => ?_)
        subst M6
        refine j_st (st1 := [.int v4, .ref (kB κ + 358)]) rfl ?_
        refine j_if_eq X 19 dX11_isIn_12 (by decide) ?_ ?_
        · exact hk3 ()
        · refine j_iconst X (0 : Int32) dX11_isIn_15 (by rfl) ?_
          refine j_goto X 20 dX11_isIn_16 (by decide) ?_
          exact hk2 (0 : Int32)
def f_X11_addRule (S : jS) (p1 : Int32) (p2 : Int32) (p3 : Int32) (p4 : Int32) : Option (jR jS) := jbin0 (f_X11_isFlag p1) (fun v1 _ => joinK (fun (x12 : Int32) => joinK (fun (x20 : Int32) => joinK (fun (x23 : Int32) => jbin0 (f_X11_goesWell S x23) (fun v24 S25 => (if v24 = (0 : Int32) then some (0, (0 : Int32), S25) else chk (inb p1 8) (letE (S25 372 p1.toNatClampNeg) fun x26 => loopK (fun (rec27 : jS → Int32 → Option (jR jS)) (S28 : jS) (x29 : Int32) => (if x29 ≤ p2 then chk (inb ((((5 : Int32) * p1) + p2)) 40) (letE (jset S28 373 ((((5 : Int32) * p1) + p2)).toNatClampNeg p3) fun S30 => chk (inb ((((5 : Int32) * p1) + p2)) 40) (letE (jset S30 374 ((((5 : Int32) * p1) + p2)).toNatClampNeg p4) fun S31 => chk (inb p1 8) (chk (inb p1 8) (letE (jset S31 372 p1.toNatClampNeg (((S31 372 p1.toNatClampNeg) + (1 : Int32)))) fun S32 => chk (inb p1 8) (some (0, (S32 372 p1.toNatClampNeg), S32)))))) else chk (inb (((((5 : Int32) * p1) + x29) - (1 : Int32))) 40) (chk (inb ((((5 : Int32) * p1) + x29)) 40) (letE (jset S28 373 ((((5 : Int32) * p1) + x29)).toNatClampNeg ((S28 373 (((((5 : Int32) * p1) + x29) - (1 : Int32))).toNatClampNeg))) fun S38 => chk (inb (((((5 : Int32) * p1) + x29) - (1 : Int32))) 40) (chk (inb ((((5 : Int32) * p1) + x29)) 40) (letE (jset S38 374 ((((5 : Int32) * p1) + x29)).toNatClampNeg ((S38 374 (((((5 : Int32) * p1) + x29) - (1 : Int32))).toNatClampNeg))) fun S39 => letE (x29 + (-1 : Int32)) fun x40 => rec27 S39 x40)))))) (fun _ _ => none) 1000 S25 x26)))) (fun k21 => (if x12 = (0 : Int32) then k21 (1 : Int32) else (if x20 = (0 : Int32) then k21 (2 : Int32) else chk (inb p1 8) ((if (S 372 p1.toNatClampNeg) = (5 : Int32) then k21 (3 : Int32) else k21 (0 : Int32))))))) (fun k13 => joinK (fun (_ : Unit) => k13 (0 : Int32)) (fun k14 => (if x12 = (0 : Int32) then k14 () else chk (inb p1 8) (jbin0 (f_X11_in p2 (0 : Int32) (S 372 p1.toNatClampNeg)) (fun v15 _ => (if v15 = (0 : Int32) then k14 () else k13 (1 : Int32)))))))) (fun k2 => joinK (fun (_ : Unit) => k2 (0 : Int32)) (fun k3 => (if v1 = (0 : Int32) then k3 () else jbin0 (f_X11_isAudience p3) (fun v4 _ => (if v4 = (0 : Int32) then k3 () else jbin0 (f_X11_in p4 (0 : Int32) (9 : Int32)) (fun v5 _ => (if v5 = (0 : Int32) then k3 () else k2 (1 : Int32)))))))))
abbrev rm_X11_addRule : Room := { frames := 2, cells := 0, slots := 0, locals := 42 }
set_option maxHeartbeats 4000000 in
set_option maxRecDepth 100000 in
theorem c_X11_addRule {l : Launch} {D : va_G} {B t0 : Nat} (hl9 : l.stackTraces = false) (S : jS) (X9 : jMem) (z : Nat → Prop) (p1 : Int32) (p2 : Int32) (p3 : Int32) (p4 : Int32) : jCf l D B t0 yX11_addRule cX11_addRule 8 (some .int) rm_X11_addRule [.ref (B + 358), .int p1, .int p2, .int p3, .int p4] (memG 358 387 D B S X9) z (f_X11_addRule S p1 p2 p3 p4) rvI (fun S9 M9 => M9 = memG 358 387 D B S9 X9) z := by
  refine jC_of hl9 (me_X11_addRule).1 [(0, .ref (B + 358)), (1, .int p1), (2, .int p2), (3, .int p3), (4, .int p4)] ⟨by decide +kernel, Nat.le_of_ble_eq_true rfl⟩ rfl (fun κ hl hD hB hT X htab hin => ?_)
  subst hl hD hB hT
  have X : jX κ RX11 cX11_addRule 8 (some .int) := X
  unfold f_X11_addRule
  refine j_iload_n X 1 rfl dX11_addRule_0 rfl ?_
  refine j_call0S X 0 0 (c_X11_isFlag X.tr (memG 358 387 (kD κ) (kB κ) S X9) z p1) me_X11_isFlag ml_X11_167 st_X11_isFlag dX11_addRule_1 (rest := []) rfl rfl (by decide) (by decide) (Nat.le_of_ble_eq_true rfl) (fun v1 u50 M49 hM48 => ?_)
  subst M49
  refine j_st (st1 := [.int v1]) rfl ?_
  refine j_join (fun k2 => ∀ (x12 : Int32), J κ 8 rm_X11_addRule (jQf κ rm_X11_addRule rvI (fun S9 M9 => M9 = memG 358 387 (kD κ) (kB κ) S9 X9) z) (k2 x12) (memG 358 387 (kD κ) (kB κ) S X9) z 0 0 [(0, .ref (kB κ + 358)), (1, .int p1), (2, .int p2), (3, .int p3), (4, .int p4)] 30 [.int x12]) ?_ (fun k2 hk2 => ?_)
  · intro x12
    refine j_istore X [(5, .int x12), (0, .ref (kB κ + 358)), (1, .int p1), (2, .int p2), (3, .int p3), (4, .int p4)] dX11_addRule_30 (by decide) rfl ?_
    refine j_iload X 0 rfl dX11_addRule_32 ?_
    refine j_join (fun k13 => ∀ (x20 : Int32), J κ 8 rm_X11_addRule (jQf κ rm_X11_addRule rvI (fun S9 M9 => M9 = memG 358 387 (kD κ) (kB κ) S9 X9) z) (k13 x20) (memG 358 387 (kD κ) (kB κ) S X9) z 0 0 [(0, .ref (kB κ + 358)), (1, .int p1), (2, .int p2), (3, .int p3), (4, .int p4), (5, .int x12)] 56 [.int x20]) ?_ (fun k13 hk13 => ?_)
    · intro x20
      refine j_istore X [(6, .int x20), (0, .ref (kB κ + 358)), (1, .int p1), (2, .int p2), (3, .int p3), (4, .int p4), (5, .int x12)] dX11_addRule_56 (by decide) rfl ?_
      refine j_aload_n X 1 rfl dX11_addRule_58 rfl ?_
      refine j_iload X 6 rfl dX11_addRule_59 ?_
      refine j_join (fun k21 => ∀ (x23 : Int32), J κ 8 rm_X11_addRule (jQf κ rm_X11_addRule rvI (fun S9 M9 => M9 = memG 358 387 (kD κ) (kB κ) S9 X9) z) (k21 x23) (memG 358 387 (kD κ) (kB κ) S X9) z 0 0 [(0, .ref (kB κ + 358)), (1, .int p1), (2, .int p2), (3, .int p3), (4, .int p4)] 92 [.int x23, .ref (kB κ + 358)]) ?_ (fun k21 hk21 => ?_)
      · intro x23
        refine j_call0V X 0 0 (c_X11_goesWell X.tr S X9 z x23) me_X11_goesWell ml_X11_107 iv_X11_goesWell cf_X11 dX11_addRule_92 (memG_at kf_358) (rest := []) rfl rfl (by decide) (by decide) (Nat.le_of_ble_eq_true rfl) (fun v24 S25 M47 hM46 => ?_)
        subst M47
        refine j_st (st1 := [.int v24]) rfl ?_
        refine j_if_ne X 100 dX11_addRule_95 (by decide) ?_ ?_
        · refine j_iconst X (0 : Int32) dX11_addRule_98 (by rfl) ?_
          exact j_iret X dX11_addRule_99 rfl (fun _ h => h)
        · refine j_aload_n X 0 rfl dX11_addRule_100 rfl ?_
          refine g_getf X 15 kf_358 cf_X11 (by decide) fl_X11_50 dX11_addRule_101 rfl rfl ?_
          refine j_iload_n X 1 rfl dX11_addRule_104 rfl ?_
          refine g_iald X 8 kf_372 (by decide) dX11_addRule_105 (fun h45 => ?_)
          refine j_letE (fun x26 => ?_)
          refine j_istore X [(7, .int x26), (0, .ref (kB κ + 358)), (1, .int p1), (2, .int p2), (3, .int p3), (4, .int p4)] dX11_addRule_106 (by decide) rfl ?_
          refine j_lv [1, 2, 3, 4, 5, 0] rfl ?_
          refine j_loop (fun (k : jS → Int32 → Option (jR jS)) => ∀ (S28 : jS) (x29 : Int32), J κ 8 rm_X11_addRule (jQf κ rm_X11_addRule rvI (fun S9 M9 => M9 = memG 358 387 (kD κ) (kB κ) S9 X9) z) (k S28 x29) (memG 358 387 (kD κ) (kB κ) S28 X9) z 0 0 [(0, .ref (kB κ + 358)), (1, .int p1), (2, .int p2), (3, .int p3), (4, .int p4), (7, .int x29)] 108 []) (fun _ _ => j_none) (fun rec27 hrec27 => ?_) 1000 _ _
          intro S28 x29
          refine j_iload X 5 rfl dX11_addRule_108 ?_
          refine j_iload_n X 2 rfl dX11_addRule_110 rfl ?_
          refine j_icmp_le X 168 dX11_addRule_111 (by decide) ?_ ?_
          · refine j_aload_n X 0 rfl dX11_addRule_168 rfl ?_
            refine g_getf X 16 kf_358 cf_X11 (by decide) fl_X11_53 dX11_addRule_169 rfl rfl ?_
            refine j_iconst X (5 : Int32) dX11_addRule_172 (by rfl) ?_
            refine j_iload_n X 1 rfl dX11_addRule_173 rfl ?_
            refine j_imul X dX11_addRule_174 ?_
            refine j_iload_n X 2 rfl dX11_addRule_175 rfl ?_
            refine j_iadd X dX11_addRule_176 ?_
            refine j_iload_n X 3 rfl dX11_addRule_177 rfl ?_
            refine g_iast X 40 kf_373 (by decide) dX11_addRule_178 (fun h37 S30 => ?_)
            refine j_aload_n X 0 rfl dX11_addRule_179 rfl ?_
            refine g_getf X 17 kf_358 cf_X11 (by decide) fl_X11_56 dX11_addRule_180 rfl rfl ?_
            refine j_iconst X (5 : Int32) dX11_addRule_183 (by rfl) ?_
            refine j_iload_n X 1 rfl dX11_addRule_184 rfl ?_
            refine j_imul X dX11_addRule_185 ?_
            refine j_iload_n X 2 rfl dX11_addRule_186 rfl ?_
            refine j_iadd X dX11_addRule_187 ?_
            refine j_iload X 4 rfl dX11_addRule_188 ?_
            refine g_iast X 40 kf_374 (by decide) dX11_addRule_190 (fun h36 S31 => ?_)
            refine j_aload_n X 0 rfl dX11_addRule_191 rfl ?_
            refine g_getf X 15 kf_358 cf_X11 (by decide) fl_X11_50 dX11_addRule_192 rfl rfl ?_
            refine j_iload_n X 1 rfl dX11_addRule_195 rfl ?_
            refine j_dup2 X dX11_addRule_196 rfl rfl ?_
            refine g_iald X 8 kf_372 (by decide) dX11_addRule_197 (fun h35 => ?_)
            refine j_iconst X (1 : Int32) dX11_addRule_198 (by rfl) ?_
            refine j_iadd X dX11_addRule_199 ?_
            refine g_iast X 8 kf_372 (by decide) dX11_addRule_200 (fun h34 S32 => ?_)
            refine j_aload_n X 0 rfl dX11_addRule_201 rfl ?_
            refine g_getf X 15 kf_358 cf_X11 (by decide) fl_X11_50 dX11_addRule_202 rfl rfl ?_
            refine j_iload_n X 1 rfl dX11_addRule_205 rfl ?_
            refine g_iald X 8 kf_372 (by decide) dX11_addRule_206 (fun h33 => ?_)
            exact j_iret X dX11_addRule_207 rfl (fun _ h => h)
          · refine j_aload_n X 0 rfl dX11_addRule_114 rfl ?_
            refine g_getf X 16 kf_358 cf_X11 (by decide) fl_X11_53 dX11_addRule_115 rfl rfl ?_
            refine j_iconst X (5 : Int32) dX11_addRule_118 (by rfl) ?_
            refine j_iload_n X 1 rfl dX11_addRule_119 rfl ?_
            refine j_imul X dX11_addRule_120 ?_
            refine j_iload X 5 rfl dX11_addRule_121 ?_
            refine j_iadd X dX11_addRule_123 ?_
            refine j_aload_n X 0 rfl dX11_addRule_124 rfl ?_
            refine g_getf X 16 kf_358 cf_X11 (by decide) fl_X11_53 dX11_addRule_125 rfl rfl ?_
            refine j_iconst X (5 : Int32) dX11_addRule_128 (by rfl) ?_
            refine j_iload_n X 1 rfl dX11_addRule_129 rfl ?_
            refine j_imul X dX11_addRule_130 ?_
            refine j_iload X 5 rfl dX11_addRule_131 ?_
            refine j_iadd X dX11_addRule_133 ?_
            refine j_iconst X (1 : Int32) dX11_addRule_134 (by rfl) ?_
            refine j_isub X dX11_addRule_135 ?_
            refine g_iald X 40 kf_373 (by decide) dX11_addRule_136 (fun h44 => ?_)
            refine g_iast X 40 kf_373 (by decide) dX11_addRule_137 (fun h43 S38 => ?_)
            refine j_aload_n X 0 rfl dX11_addRule_138 rfl ?_
            refine g_getf X 17 kf_358 cf_X11 (by decide) fl_X11_56 dX11_addRule_139 rfl rfl ?_
            refine j_iconst X (5 : Int32) dX11_addRule_142 (by rfl) ?_
            refine j_iload_n X 1 rfl dX11_addRule_143 rfl ?_
            refine j_imul X dX11_addRule_144 ?_
            refine j_iload X 5 rfl dX11_addRule_145 ?_
            refine j_iadd X dX11_addRule_147 ?_
            refine j_aload_n X 0 rfl dX11_addRule_148 rfl ?_
            refine g_getf X 17 kf_358 cf_X11 (by decide) fl_X11_56 dX11_addRule_149 rfl rfl ?_
            refine j_iconst X (5 : Int32) dX11_addRule_152 (by rfl) ?_
            refine j_iload_n X 1 rfl dX11_addRule_153 rfl ?_
            refine j_imul X dX11_addRule_154 ?_
            refine j_iload X 5 rfl dX11_addRule_155 ?_
            refine j_iadd X dX11_addRule_157 ?_
            refine j_iconst X (1 : Int32) dX11_addRule_158 (by rfl) ?_
            refine j_isub X dX11_addRule_159 ?_
            refine g_iald X 40 kf_374 (by decide) dX11_addRule_160 (fun h42 => ?_)
            refine g_iast X 40 kf_374 (by decide) dX11_addRule_161 (fun h41 S39 => ?_)
            refine j_iincL X 5 (fun x40 => [(7, .int x40), (0, .ref (kB κ + 358)), (1, .int p1), (2, .int p2), (3, .int p3), (4, .int p4)]) dX11_addRule_162 rfl (by rfl) (by decide) (fun _ => rfl) (fun x40 => ?_)
            refine j_goto X 108 dX11_addRule_165 (by decide) ?_
            refine j_lv [1, 2, 3, 4, 5, 0] rfl ?_
            exact hrec27 S39 x40
      · refine j_if_ne X 68 dX11_addRule_61 (by decide) ?_ ?_
        · refine j_iconst X (1 : Int32) dX11_addRule_64 (by rfl) ?_
          refine j_goto X 92 dX11_addRule_65 (by decide) ?_
          refine j_lv [1, 2, 3, 4, 5] rfl ?_
          exact hk21 (1 : Int32)
        · refine j_iload X 0 rfl dX11_addRule_68 ?_
          refine j_if_ne X 77 dX11_addRule_70 (by decide) ?_ ?_
          · refine j_iconst X (2 : Int32) dX11_addRule_73 (by rfl) ?_
            refine j_goto X 92 dX11_addRule_74 (by decide) ?_
            refine j_lv [1, 2, 3, 4, 5] rfl ?_
            exact hk21 (2 : Int32)
          · refine j_aload_n X 1 rfl dX11_addRule_77 rfl ?_
            refine g_getf X 15 kf_358 cf_X11 (by decide) fl_X11_50 dX11_addRule_78 rfl rfl ?_
            refine j_iload_n X 2 rfl dX11_addRule_81 rfl ?_
            refine g_iald X 8 kf_372 (by decide) dX11_addRule_82 (fun h22 => ?_)
            refine j_iconst X (5 : Int32) dX11_addRule_83 (by rfl) ?_
            refine j_icmp_ne X 91 dX11_addRule_84 (by decide) ?_ ?_
            · refine j_iconst X (3 : Int32) dX11_addRule_87 (by rfl) ?_
              refine j_goto X 92 dX11_addRule_88 (by decide) ?_
              refine j_lv [1, 2, 3, 4, 5] rfl ?_
              exact hk21 (3 : Int32)
            · refine j_iconst X (0 : Int32) dX11_addRule_91 (by rfl) ?_
              refine j_lv [1, 2, 3, 4, 5] rfl ?_
              exact hk21 (0 : Int32)
    · refine j_join (fun k14 => ∀ (_ : Unit), J κ 8 rm_X11_addRule (jQf κ rm_X11_addRule rvI (fun S9 M9 => M9 = memG 358 387 (kD κ) (kB κ) S9 X9) z) (k14 ()) (memG 358 387 (kD κ) (kB κ) S X9) z 0 0 [(0, .ref (kB κ + 358)), (1, .int p1), (2, .int p2), (3, .int p3), (4, .int p4), (5, .int x12)] 55 []) ?_ (fun k14 hk14 => ?_)
      · intro _
        refine j_iconst X (0 : Int32) dX11_addRule_55 (by rfl) ?_
        exact hk13 (0 : Int32)
      · refine j_if_eq X 55 dX11_addRule_34 (by decide) ?_ ?_
        · refine j_lv [1, 2, 3, 4, 5, 0] rfl ?_
          exact hk14 ()
        · refine j_iload_n X 3 rfl dX11_addRule_37 rfl ?_
          refine j_iconst X (0 : Int32) dX11_addRule_38 (by rfl) ?_
          refine j_aload_n X 1 rfl dX11_addRule_39 rfl ?_
          refine g_getf X 15 kf_358 cf_X11 (by decide) fl_X11_50 dX11_addRule_40 rfl rfl ?_
          refine j_iload_n X 2 rfl dX11_addRule_43 rfl ?_
          refine g_iald X 8 kf_372 (by decide) dX11_addRule_44 (fun h19 => ?_)
          refine j_call0S X 0 0 (c_X11_in X.tr (memG 358 387 (kD κ) (kB κ) S X9) z p2 (0 : Int32) (S 372 p1.toNatClampNeg)) me_X11_in ml_X11_99 st_X11_in dX11_addRule_45 (rest := []) rfl rfl (by decide) (by decide) (Nat.le_of_ble_eq_true rfl) (fun v15 u18 M17 hM16 => ?_)
          subst M17
          refine j_st (st1 := [.int v15]) rfl ?_
          refine j_if_eq X 55 dX11_addRule_48 (by decide) ?_ ?_
          · refine j_lv [1, 2, 3, 4, 5, 0] rfl ?_
            exact hk14 ()
          · refine j_iconst X (1 : Int32) dX11_addRule_51 (by rfl) ?_
            refine j_goto X 56 dX11_addRule_52 (by decide) ?_
            refine j_lv [1, 2, 3, 4, 5, 0] rfl ?_
            exact hk13 (1 : Int32)
  · refine j_join (fun k3 => ∀ (_ : Unit), J κ 8 rm_X11_addRule (jQf κ rm_X11_addRule rvI (fun S9 M9 => M9 = memG 358 387 (kD κ) (kB κ) S9 X9) z) (k3 ()) (memG 358 387 (kD κ) (kB κ) S X9) z 0 0 [(0, .ref (kB κ + 358)), (1, .int p1), (2, .int p2), (3, .int p3), (4, .int p4)] 29 []) ?_ (fun k3 hk3 => ?_)
    · intro _
      refine j_iconst X (0 : Int32) dX11_addRule_29 (by rfl) ?_
      exact hk2 (0 : Int32)
    · refine j_if_eq X 29 dX11_addRule_4 (by decide) ?_ ?_
      · exact hk3 ()
      · refine j_iload_n X 3 rfl dX11_addRule_7 rfl ?_
        refine j_call0S X 0 0 (c_X11_isAudience X.tr (memG 358 387 (kD κ) (kB κ) S X9) z p3) me_X11_isAudience ml_X11_110 st_X11_isAudience dX11_addRule_8 (rest := []) rfl rfl (by decide) (by decide) (Nat.le_of_ble_eq_true rfl) (fun v4 u11 M10 hM9 => ?_)
        subst M10
        refine j_st (st1 := [.int v4]) rfl ?_
        refine j_if_eq X 29 dX11_addRule_11 (by decide) ?_ ?_
        · exact hk3 ()
        · refine j_iload X 4 rfl dX11_addRule_14 ?_
          refine j_iconst X (0 : Int32) dX11_addRule_16 (by rfl) ?_
          refine j_bipush X (9 : Int32) dX11_addRule_17 (by rfl) ?_
          refine j_call0S X 0 0 (c_X11_in X.tr (memG 358 387 (kD κ) (kB κ) S X9) z p4 (0 : Int32) (9 : Int32)) me_X11_in ml_X11_99 st_X11_in dX11_addRule_19 (rest := []) rfl rfl (by decide) (by decide) (Nat.le_of_ble_eq_true rfl) (fun v5 u8 M7 hM6 => ?_)
          subst M7
          refine j_st (st1 := [.int v5]) rfl ?_
          refine j_if_eq X 29 dX11_addRule_22 (by decide) ?_ ?_
          · exact hk3 ()
          · refine j_iconst X (1 : Int32) dX11_addRule_25 (by rfl) ?_
            refine j_goto X 30 dX11_addRule_26 (by decide) ?_
            exact hk2 (1 : Int32)
def f_X11_removeRule (S : jS) (p1 : Int32) (p2 : Int32) : Option (jR jS) := jbin0 (f_X11_isFlag p1) (fun v1 _ => joinK (fun (x8 : Int32) => jbin0 (f_X11_goesWell S x8) (fun v9 S10 => (if v9 = (0 : Int32) then some (0, (0 : Int32), S10) else chk (inb ((((5 : Int32) * p1) + p2)) 40) (letE ((S10 374 ((((5 : Int32) * p1) + p2)).toNatClampNeg)) fun x11 => chk (inb p1 8) (chk (inb p1 8) (letE (jset S10 372 p1.toNatClampNeg (((S10 372 p1.toNatClampNeg) - (1 : Int32)))) fun S12 => loopK (fun (rec13 : jS → Int32 → Option (jR jS)) (S14 : jS) (x15 : Int32) => chk (inb p1 8) ((if (S14 372 p1.toNatClampNeg) ≤ x15 then some (0, x11, S14) else chk (inb (((((5 : Int32) * p1) + x15) + (1 : Int32))) 40) (chk (inb ((((5 : Int32) * p1) + x15)) 40) (letE (jset S14 373 ((((5 : Int32) * p1) + x15)).toNatClampNeg ((S14 373 (((((5 : Int32) * p1) + x15) + (1 : Int32))).toNatClampNeg))) fun S16 => chk (inb (((((5 : Int32) * p1) + x15) + (1 : Int32))) 40) (chk (inb ((((5 : Int32) * p1) + x15)) 40) (letE (jset S16 374 ((((5 : Int32) * p1) + x15)).toNatClampNeg ((S16 374 (((((5 : Int32) * p1) + x15) + (1 : Int32))).toNatClampNeg))) fun S17 => letE (x15 + (1 : Int32)) fun x18 => rec13 S17 x18))))))) (fun _ _ => none) 1000 S12 p2)))))) (fun k2 => (if v1 = (0 : Int32) then k2 (1 : Int32) else chk (inb p1 8) (jbin0 (f_X11_in p2 (0 : Int32) (((S 372 p1.toNatClampNeg) - (1 : Int32)))) (fun v3 _ => (if v3 = (0 : Int32) then k2 (2 : Int32) else k2 (0 : Int32)))))))
abbrev rm_X11_removeRule : Room := { frames := 2, cells := 0, slots := 0, locals := 42 }
set_option maxHeartbeats 4000000 in
set_option maxRecDepth 100000 in
theorem c_X11_removeRule {l : Launch} {D : va_G} {B t0 : Nat} (hl9 : l.stackTraces = false) (S : jS) (X9 : jMem) (z : Nat → Prop) (p1 : Int32) (p2 : Int32) : jCf l D B t0 yX11_removeRule cX11_removeRule 6 (some .int) rm_X11_removeRule [.ref (B + 358), .int p1, .int p2] (memG 358 387 D B S X9) z (f_X11_removeRule S p1 p2) rvI (fun S9 M9 => M9 = memG 358 387 D B S9 X9) z := by
  refine jC_of hl9 (me_X11_removeRule).1 [(0, .ref (B + 358)), (1, .int p1), (2, .int p2)] ⟨by decide +kernel, Nat.le_of_ble_eq_true rfl⟩ rfl (fun κ hl hD hB hT X htab hin => ?_)
  subst hl hD hB hT
  have X : jX κ RX11 cX11_removeRule 6 (some .int) := X
  unfold f_X11_removeRule
  refine j_iload_n X 1 rfl dX11_removeRule_0 rfl ?_
  refine j_call0S X 0 0 (c_X11_isFlag X.tr (memG 358 387 (kD κ) (kB κ) S X9) z p1) me_X11_isFlag ml_X11_167 st_X11_isFlag dX11_removeRule_1 (rest := []) rfl rfl (by decide) (by decide) (Nat.le_of_ble_eq_true rfl) (fun v1 u31 M30 hM29 => ?_)
  subst M30
  refine j_st (st1 := [.int v1]) rfl ?_
  refine j_istore_n X [(3, .int v1), (0, .ref (kB κ + 358)), (1, .int p1), (2, .int p2)] dX11_removeRule_4 rfl (by decide) rfl ?_
  refine j_aload_n X 1 rfl dX11_removeRule_5 rfl ?_
  refine j_iload_n X 0 rfl dX11_removeRule_6 rfl ?_
  refine j_join (fun k2 => ∀ (x8 : Int32), J κ 6 rm_X11_removeRule (jQf κ rm_X11_removeRule rvI (fun S9 M9 => M9 = memG 358 387 (kD κ) (kB κ) S9 X9) z) (k2 x8) (memG 358 387 (kD κ) (kB κ) S X9) z 0 0 [(0, .ref (kB κ + 358)), (1, .int p1), (2, .int p2)] 35 [.int x8, .ref (kB κ + 358)]) ?_ (fun k2 hk2 => ?_)
  · intro x8
    refine j_call0V X 0 0 (c_X11_goesWell X.tr S X9 z x8) me_X11_goesWell ml_X11_107 iv_X11_goesWell cf_X11 dX11_removeRule_35 (memG_at kf_358) (rest := []) rfl rfl (by decide) (by decide) (Nat.le_of_ble_eq_true rfl) (fun v9 S10 M28 hM27 => ?_)
    subst M28
    refine j_st (st1 := [.int v9]) rfl ?_
    refine j_if_ne X 43 dX11_removeRule_38 (by decide) ?_ ?_
    · refine j_iconst X (0 : Int32) dX11_removeRule_41 (by rfl) ?_
      exact j_iret X dX11_removeRule_42 rfl (fun _ h => h)
    · refine j_aload_n X 0 rfl dX11_removeRule_43 rfl ?_
      refine g_getf X 17 kf_358 cf_X11 (by decide) fl_X11_56 dX11_removeRule_44 rfl rfl ?_
      refine j_iconst X (5 : Int32) dX11_removeRule_47 (by rfl) ?_
      refine j_iload_n X 1 rfl dX11_removeRule_48 rfl ?_
      refine j_imul X dX11_removeRule_49 ?_
      refine j_iload_n X 2 rfl dX11_removeRule_50 rfl ?_
      refine j_iadd X dX11_removeRule_51 ?_
      refine g_iald X 40 kf_374 (by decide) dX11_removeRule_52 (fun h26 => ?_)
      refine j_letE (fun x11 => ?_)
      refine j_istore X [(4, .int x11), (0, .ref (kB κ + 358)), (1, .int p1), (2, .int p2)] dX11_removeRule_53 (by decide) rfl ?_
      refine j_aload_n X 1 rfl dX11_removeRule_55 rfl ?_
      refine g_getf X 15 kf_358 cf_X11 (by decide) fl_X11_50 dX11_removeRule_56 rfl rfl ?_
      refine j_iload_n X 2 rfl dX11_removeRule_59 rfl ?_
      refine j_dup2 X dX11_removeRule_60 rfl rfl ?_
      refine g_iald X 8 kf_372 (by decide) dX11_removeRule_61 (fun h25 => ?_)
      refine j_iconst X (1 : Int32) dX11_removeRule_62 (by rfl) ?_
      refine j_isub X dX11_removeRule_63 ?_
      refine g_iast X 8 kf_372 (by decide) dX11_removeRule_64 (fun h24 S12 => ?_)
      refine j_iload_n X 3 rfl dX11_removeRule_65 rfl ?_
      refine j_istore X [(5, .int p2), (4, .int x11), (0, .ref (kB κ + 358)), (1, .int p1), (2, .int p2)] dX11_removeRule_66 (by decide) rfl ?_
      refine j_lv [2, 3, 1, 0] rfl ?_
      refine j_loop (fun (k : jS → Int32 → Option (jR jS)) => ∀ (S14 : jS) (x15 : Int32), J κ 6 rm_X11_removeRule (jQf κ rm_X11_removeRule rvI (fun S9 M9 => M9 = memG 358 387 (kD κ) (kB κ) S9 X9) z) (k S14 x15) (memG 358 387 (kD κ) (kB κ) S14 X9) z 0 0 [(0, .ref (kB κ + 358)), (1, .int p1), (4, .int x11), (5, .int x15)] 68 []) (fun _ _ => j_none) (fun rec13 hrec13 => ?_) 1000 _ _
      intro S14 x15
      refine j_iload X 3 rfl dX11_removeRule_68 ?_
      refine j_aload_n X 0 rfl dX11_removeRule_70 rfl ?_
      refine g_getf X 15 kf_358 cf_X11 (by decide) fl_X11_50 dX11_removeRule_71 rfl rfl ?_
      refine j_iload_n X 1 rfl dX11_removeRule_74 rfl ?_
      refine g_iald X 8 kf_372 (by decide) dX11_removeRule_75 (fun h23 => ?_)
      refine j_icmp_ge X 133 dX11_removeRule_76 (by decide) ?_ ?_
      · refine j_iload X 2 rfl dX11_removeRule_133 ?_
        exact j_iret X dX11_removeRule_135 rfl (fun _ h => h)
      · refine j_aload_n X 0 rfl dX11_removeRule_79 rfl ?_
        refine g_getf X 16 kf_358 cf_X11 (by decide) fl_X11_53 dX11_removeRule_80 rfl rfl ?_
        refine j_iconst X (5 : Int32) dX11_removeRule_83 (by rfl) ?_
        refine j_iload_n X 1 rfl dX11_removeRule_84 rfl ?_
        refine j_imul X dX11_removeRule_85 ?_
        refine j_iload X 3 rfl dX11_removeRule_86 ?_
        refine j_iadd X dX11_removeRule_88 ?_
        refine j_aload_n X 0 rfl dX11_removeRule_89 rfl ?_
        refine g_getf X 16 kf_358 cf_X11 (by decide) fl_X11_53 dX11_removeRule_90 rfl rfl ?_
        refine j_iconst X (5 : Int32) dX11_removeRule_93 (by rfl) ?_
        refine j_iload_n X 1 rfl dX11_removeRule_94 rfl ?_
        refine j_imul X dX11_removeRule_95 ?_
        refine j_iload X 3 rfl dX11_removeRule_96 ?_
        refine j_iadd X dX11_removeRule_98 ?_
        refine j_iconst X (1 : Int32) dX11_removeRule_99 (by rfl) ?_
        refine j_iadd X dX11_removeRule_100 ?_
        refine g_iald X 40 kf_373 (by decide) dX11_removeRule_101 (fun h22 => ?_)
        refine g_iast X 40 kf_373 (by decide) dX11_removeRule_102 (fun h21 S16 => ?_)
        refine j_aload_n X 0 rfl dX11_removeRule_103 rfl ?_
        refine g_getf X 17 kf_358 cf_X11 (by decide) fl_X11_56 dX11_removeRule_104 rfl rfl ?_
        refine j_iconst X (5 : Int32) dX11_removeRule_107 (by rfl) ?_
        refine j_iload_n X 1 rfl dX11_removeRule_108 rfl ?_
        refine j_imul X dX11_removeRule_109 ?_
        refine j_iload X 3 rfl dX11_removeRule_110 ?_
        refine j_iadd X dX11_removeRule_112 ?_
        refine j_aload_n X 0 rfl dX11_removeRule_113 rfl ?_
        refine g_getf X 17 kf_358 cf_X11 (by decide) fl_X11_56 dX11_removeRule_114 rfl rfl ?_
        refine j_iconst X (5 : Int32) dX11_removeRule_117 (by rfl) ?_
        refine j_iload_n X 1 rfl dX11_removeRule_118 rfl ?_
        refine j_imul X dX11_removeRule_119 ?_
        refine j_iload X 3 rfl dX11_removeRule_120 ?_
        refine j_iadd X dX11_removeRule_122 ?_
        refine j_iconst X (1 : Int32) dX11_removeRule_123 (by rfl) ?_
        refine j_iadd X dX11_removeRule_124 ?_
        refine g_iald X 40 kf_374 (by decide) dX11_removeRule_125 (fun h20 => ?_)
        refine g_iast X 40 kf_374 (by decide) dX11_removeRule_126 (fun h19 S17 => ?_)
        refine j_iincL X 3 (fun x18 => [(5, .int x18), (0, .ref (kB κ + 358)), (1, .int p1), (4, .int x11)]) dX11_removeRule_127 rfl (by rfl) (by decide) (fun _ => rfl) (fun x18 => ?_)
        refine j_goto X 68 dX11_removeRule_130 (by decide) ?_
        refine j_lv [1, 2, 3, 0] rfl ?_
        exact hrec13 S17 x18
  · refine j_if_ne X 14 dX11_removeRule_7 (by decide) ?_ ?_
    · refine j_iconst X (1 : Int32) dX11_removeRule_10 (by rfl) ?_
      refine j_goto X 35 dX11_removeRule_11 (by decide) ?_
      refine j_lv [1, 2, 3] rfl ?_
      exact hk2 (1 : Int32)
    · refine j_iload_n X 3 rfl dX11_removeRule_14 rfl ?_
      refine j_iconst X (0 : Int32) dX11_removeRule_15 (by rfl) ?_
      refine j_aload_n X 1 rfl dX11_removeRule_16 rfl ?_
      refine g_getf X 15 kf_358 cf_X11 (by decide) fl_X11_50 dX11_removeRule_17 rfl rfl ?_
      refine j_iload_n X 2 rfl dX11_removeRule_20 rfl ?_
      refine g_iald X 8 kf_372 (by decide) dX11_removeRule_21 (fun h7 => ?_)
      refine j_iconst X (1 : Int32) dX11_removeRule_22 (by rfl) ?_
      refine j_isub X dX11_removeRule_23 ?_
      refine j_call0S X 0 0 (c_X11_in X.tr (memG 358 387 (kD κ) (kB κ) S X9) z p2 (0 : Int32) (((S 372 p1.toNatClampNeg) - (1 : Int32)))) me_X11_in ml_X11_99 st_X11_in dX11_removeRule_24 (rest := [.ref (kB κ + 358)]) rfl rfl (by decide) (by decide) (Nat.le_of_ble_eq_true rfl) (fun v3 u6 M5 hM4 => ?_)
      subst M5
      refine j_st (st1 := [.int v3, .ref (kB κ + 358)]) rfl ?_
      refine j_if_eq X 34 dX11_removeRule_27 (by decide) ?_ ?_
      · refine j_iconst X (2 : Int32) dX11_removeRule_34 (by rfl) ?_
        refine j_lv [1, 2, 3] rfl ?_
        exact hk2 (2 : Int32)
      · refine j_iconst X (0 : Int32) dX11_removeRule_30 (by rfl) ?_
        refine j_goto X 35 dX11_removeRule_31 (by decide) ?_
        refine j_lv [1, 2, 3] rfl ?_
        exact hk2 (0 : Int32)
def f_X11_rules (S : jS) (p1 : Int32) : Option (jR jS) := jbin0 (f_X11_isFlag p1) (fun v1 _ => joinK (fun (x3 : Int32) => jbin0 (f_X11_goesWell S x3) (fun v4 S5 => joinK (fun (x8 : Int32) => some (0, x8, S5)) (fun k6 => (if v4 = (0 : Int32) then k6 (0 : Int32) else chk (inb p1 8) (k6 (S5 372 p1.toNatClampNeg)))))) (fun k2 => (if v1 = (0 : Int32) then k2 (1 : Int32) else k2 (0 : Int32))))
abbrev rm_X11_rules : Room := { frames := 2, cells := 0, slots := 0, locals := 42 }
set_option maxHeartbeats 4000000 in
set_option maxRecDepth 100000 in
theorem c_X11_rules {l : Launch} {D : va_G} {B t0 : Nat} (hl9 : l.stackTraces = false) (S : jS) (X9 : jMem) (z : Nat → Prop) (p1 : Int32) : jCf l D B t0 yX11_rules cX11_rules 2 (some .int) rm_X11_rules [.ref (B + 358), .int p1] (memG 358 387 D B S X9) z (f_X11_rules S p1) rvI (fun S9 M9 => M9 = memG 358 387 D B S9 X9) z := by
  refine jC_of hl9 (me_X11_rules).1 [(0, .ref (B + 358)), (1, .int p1)] ⟨by decide +kernel, Nat.le_of_ble_eq_true rfl⟩ rfl (fun κ hl hD hB hT X htab hin => ?_)
  subst hl hD hB hT
  have X : jX κ RX11 cX11_rules 2 (some .int) := X
  unfold f_X11_rules
  refine j_aload_n X 0 rfl dX11_rules_0 rfl ?_
  refine j_iload_n X 1 rfl dX11_rules_1 rfl ?_
  refine j_call0S X 0 0 (c_X11_isFlag X.tr (memG 358 387 (kD κ) (kB κ) S X9) z p1) me_X11_isFlag ml_X11_167 st_X11_isFlag dX11_rules_2 (rest := [.ref (kB κ + 358)]) rfl rfl (by decide) (by decide) (Nat.le_of_ble_eq_true rfl) (fun v1 u13 M12 hM11 => ?_)
  subst M12
  refine j_st (st1 := [.int v1, .ref (kB κ + 358)]) rfl ?_
  refine j_join (fun k2 => ∀ (x3 : Int32), J κ 2 rm_X11_rules (jQf κ rm_X11_rules rvI (fun S9 M9 => M9 = memG 358 387 (kD κ) (kB κ) S9 X9) z) (k2 x3) (memG 358 387 (kD κ) (kB κ) S X9) z 0 0 [(0, .ref (kB κ + 358)), (1, .int p1)] 13 [.int x3, .ref (kB κ + 358)]) ?_ (fun k2 hk2 => ?_)
  · intro x3
    refine j_call0V X 0 0 (c_X11_goesWell X.tr S X9 z x3) me_X11_goesWell ml_X11_107 iv_X11_goesWell cf_X11 dX11_rules_13 (memG_at kf_358) (rest := []) rfl rfl (by decide) (by decide) (Nat.le_of_ble_eq_true rfl) (fun v4 S5 M10 hM9 => ?_)
    subst M10
    refine j_st (st1 := [.int v4]) rfl ?_
    refine j_join (fun k6 => ∀ (x8 : Int32), J κ 2 rm_X11_rules (jQf κ rm_X11_rules rvI (fun S9 M9 => M9 = memG 358 387 (kD κ) (kB κ) S9 X9) z) (k6 x8) (memG 358 387 (kD κ) (kB κ) S5 X9) z 0 0 [] 29 [.int x8]) ?_ (fun k6 hk6 => ?_)
    · intro x8
      exact j_iret X dX11_rules_29 rfl (fun _ h => h)
    · refine j_if_eq X 28 dX11_rules_16 (by decide) ?_ ?_
      · refine j_iconst X (0 : Int32) dX11_rules_28 (by rfl) ?_
        refine j_lv [] rfl ?_
        exact hk6 (0 : Int32)
      · refine j_aload_n X 0 rfl dX11_rules_19 rfl ?_
        refine g_getf X 15 kf_358 cf_X11 (by decide) fl_X11_50 dX11_rules_20 rfl rfl ?_
        refine j_iload_n X 1 rfl dX11_rules_23 rfl ?_
        refine g_iald X 8 kf_372 (by decide) dX11_rules_24 (fun h7 => ?_)
        refine j_goto X 29 dX11_rules_25 (by decide) ?_
        refine j_lv [] rfl ?_
        exact hk6 (S5 372 p1.toNatClampNeg)
  · refine j_if_eq X 12 dX11_rules_5 (by decide) ?_ ?_
    · refine j_iconst X (1 : Int32) dX11_rules_12 (by rfl) ?_
      exact hk2 (1 : Int32)
    · refine j_iconst X (0 : Int32) dX11_rules_8 (by rfl) ?_
      refine j_goto X 13 dX11_rules_9 (by decide) ?_
      exact hk2 (0 : Int32)
def f_X11_allNeeds (S : jS) (p1 : Int32) : Option (jR Unit) := chk (inb p1 8) (letE (S 375 p1.toNatClampNeg) fun x1 => loopK (fun (rec2 : Int32 → Int32 → Option (jR Unit)) (x3 : Int32) (x4 : Int32) => (if (8 : Int32) ≤ x4 then some (0, x3, ()) else loopK (fun (rec5 : Int32 → Int32 → Option (jR Unit)) (x6 : Int32) (x7 : Int32) => (if (8 : Int32) ≤ x7 then letE (x4 + (1 : Int32)) fun x8 => rec2 x6 x8 else joinK (fun (x11 : Int32) => letE (x6 ||| x11) fun x12 => letE (x7 + (1 : Int32)) fun x13 => rec5 x12 x13) (fun k9 => (if ((x6 >>> (x7 &&& 31)) &&& (1 : Int32)) = (1 : Int32) then chk (inb x7 8) (k9 (S 375 x7.toNatClampNeg)) else k9 (0 : Int32))))) (fun _ _ => none) 1000 x3 (0 : Int32))) (fun _ _ => none) 1000 x1 (0 : Int32))
abbrev rm_X11_allNeeds : Room := { frames := 0, cells := 0, slots := 0, locals := 0 }
set_option maxHeartbeats 4000000 in
set_option maxRecDepth 100000 in
theorem c_X11_allNeeds {l : Launch} {D : va_G} {B t0 : Nat} (hl9 : l.stackTraces = false) (S : jS) (X9 : jMem) (z : Nat → Prop) (p1 : Int32) : jCf l D B t0 yX11_allNeeds cX11_allNeeds 5 (some .int) rm_X11_allNeeds [.ref (B + 358), .int p1] (memG 358 387 D B S X9) z (f_X11_allNeeds S p1) rvI (fun (S9 : Unit) M9 => M9 = memG 358 387 D B S X9) z := by
  refine jC_of hl9 (me_X11_allNeeds).1 [(0, .ref (B + 358)), (1, .int p1)] ⟨by decide +kernel, Nat.le_of_ble_eq_true rfl⟩ rfl (fun κ hl hD hB hT X htab hin => ?_)
  subst hl hD hB hT
  have X : jX κ RX11 cX11_allNeeds 5 (some .int) := X
  unfold f_X11_allNeeds
  refine j_aload_n X 0 rfl dX11_allNeeds_0 rfl ?_
  refine g_getf X 18 kf_358 cf_X11 (by decide) fl_X11_59 dX11_allNeeds_1 rfl rfl ?_
  refine j_iload_n X 1 rfl dX11_allNeeds_4 rfl ?_
  refine g_iald X 8 kf_375 (by decide) dX11_allNeeds_5 (fun h14 => ?_)
  refine j_letE (fun x1 => ?_)
  refine j_istore_n X [(2, .int x1), (0, .ref (kB κ + 358)), (1, .int p1)] dX11_allNeeds_6 rfl (by decide) rfl ?_
  refine j_iconst X (0 : Int32) dX11_allNeeds_7 (by rfl) ?_
  refine j_istore_n X [(3, .int (0 : Int32)), (2, .int x1), (0, .ref (kB κ + 358)), (1, .int p1)] dX11_allNeeds_8 rfl (by decide) rfl ?_
  refine j_lv [2, 1, 0] rfl ?_
  refine j_loop (fun (k : Int32 → Int32 → Option (jR Unit)) => ∀ (x3 : Int32) (x4 : Int32), J κ 5 rm_X11_allNeeds (jQf κ rm_X11_allNeeds rvI (fun (S9 : Unit) M9 => M9 = memG 358 387 (kD κ) (kB κ) S X9) z) (k x3 x4) (memG 358 387 (kD κ) (kB κ) S X9) z 0 0 [(0, .ref (kB κ + 358)), (2, .int x3), (3, .int x4)] 9 []) (fun _ _ => j_none) (fun rec2 hrec2 => ?_) 1000 _ _
  intro x3 x4
  refine j_iload_n X 2 rfl dX11_allNeeds_9 rfl ?_
  refine j_bipush X (8 : Int32) dX11_allNeeds_10 (by rfl) ?_
  refine j_icmp_ge X 61 dX11_allNeeds_12 (by decide) ?_ ?_
  · refine j_iload_n X 1 rfl dX11_allNeeds_61 rfl ?_
    exact j_iret X dX11_allNeeds_62 rfl (fun _ h => h)
  · refine j_iconst X (0 : Int32) dX11_allNeeds_15 (by rfl) ?_
    refine j_istore X [(4, .int (0 : Int32)), (0, .ref (kB κ + 358)), (2, .int x3), (3, .int x4)] dX11_allNeeds_16 (by decide) rfl ?_
    refine j_lv [1, 2, 3, 0] rfl ?_
    refine j_loop (fun (k : Int32 → Int32 → Option (jR Unit)) => ∀ (x6 : Int32) (x7 : Int32), J κ 5 rm_X11_allNeeds (jQf κ rm_X11_allNeeds rvI (fun (S9 : Unit) M9 => M9 = memG 358 387 (kD κ) (kB κ) S X9) z) (k x6 x7) (memG 358 387 (kD κ) (kB κ) S X9) z 0 0 [(0, .ref (kB κ + 358)), (2, .int x6), (3, .int x4), (4, .int x7)] 18 []) (fun _ _ => j_none) (fun rec5 hrec5 => ?_) 1000 _ _
    intro x6 x7
    refine j_iload X 3 rfl dX11_allNeeds_18 ?_
    refine j_bipush X (8 : Int32) dX11_allNeeds_20 (by rfl) ?_
    refine j_icmp_ge X 55 dX11_allNeeds_22 (by decide) ?_ ?_
    · refine j_iincL X 2 (fun x8 => [(3, .int x8), (0, .ref (kB κ + 358)), (2, .int x6), (4, .int x7)]) dX11_allNeeds_55 rfl (by rfl) (by decide) (fun _ => rfl) (fun x8 => ?_)
      refine j_goto X 9 dX11_allNeeds_58 (by decide) ?_
      refine j_lv [1, 2, 0] rfl ?_
      exact hrec2 x6 x8
    · refine j_iload_n X 1 rfl dX11_allNeeds_25 rfl ?_
      refine j_iload_n X 1 rfl dX11_allNeeds_26 rfl ?_
      refine j_iload X 3 rfl dX11_allNeeds_27 ?_
      refine j_ishr X dX11_allNeeds_29 ?_
      refine j_iconst X (1 : Int32) dX11_allNeeds_30 (by rfl) ?_
      refine j_iand X dX11_allNeeds_31 ?_
      refine j_iconst X (1 : Int32) dX11_allNeeds_32 (by rfl) ?_
      refine j_join (fun k9 => ∀ (x11 : Int32), J κ 5 rm_X11_allNeeds (jQf κ rm_X11_allNeeds rvI (fun (S9 : Unit) M9 => M9 = memG 358 387 (kD κ) (kB κ) S X9) z) (k9 x11) (memG 358 387 (kD κ) (kB κ) S X9) z 0 0 [(0, .ref (kB κ + 358)), (3, .int x4), (4, .int x7)] 47 [.int x11, .int x6]) ?_ (fun k9 hk9 => ?_)
      · intro x11
        refine j_ior X dX11_allNeeds_47 ?_
        refine j_letE (fun x12 => ?_)
        refine j_istore_n X [(2, .int x12), (0, .ref (kB κ + 358)), (3, .int x4), (4, .int x7)] dX11_allNeeds_48 rfl (by decide) rfl ?_
        refine j_iincL X 3 (fun x13 => [(4, .int x13), (2, .int x12), (0, .ref (kB κ + 358)), (3, .int x4)]) dX11_allNeeds_49 rfl (by rfl) (by decide) (fun _ => rfl) (fun x13 => ?_)
        refine j_goto X 18 dX11_allNeeds_52 (by decide) ?_
        refine j_lv [2, 1, 3, 0] rfl ?_
        exact hrec5 x12 x13
      · refine j_icmp_ne X 46 dX11_allNeeds_33 (by decide) ?_ ?_
        · refine j_aload_n X 0 rfl dX11_allNeeds_36 rfl ?_
          refine g_getf X 18 kf_358 cf_X11 (by decide) fl_X11_59 dX11_allNeeds_37 rfl rfl ?_
          refine j_iload X 3 rfl dX11_allNeeds_40 ?_
          refine g_iald X 8 kf_375 (by decide) dX11_allNeeds_42 (fun h10 => ?_)
          refine j_goto X 47 dX11_allNeeds_43 (by decide) ?_
          refine j_lv [0, 2, 3] rfl ?_
          exact hk9 (S 375 x7.toNatClampNeg)
        · refine j_iconst X (0 : Int32) dX11_allNeeds_46 (by rfl) ?_
          refine j_lv [0, 2, 3] rfl ?_
          exact hk9 (0 : Int32)
def f_X11_setNeed (S : jS) (p1 : Int32) (p2 : Int32) (p3 : Int32) : Option (jR jS) := jbin0 (f_X11_isFlag p1) (fun v1 _ => joinK (fun (x8 : Int32) => joinK (fun (x15 : Int32) => joinK (fun (x17 : Int32) => jbin0 (f_X11_goesWell S x17) (fun v18 S19 => (if v18 = (0 : Int32) then chk (isb (0 : Int32)) (some (0, (0 : Int32), S19)) else chk (inb p1 8) (joinK (fun (x21 : Int32) => joinK (fun (x25 : Int32) => chk (inb p1 8) (letE (jset S19 375 p1.toNatClampNeg x25) fun S26 => chk (isb x21) (some (0, x21, S26)))) (fun k22 => (if p3 = (0 : Int32) then chk (inb p1 8) (k22 (((S19 375 p1.toNatClampNeg) &&& (((1 : Int32) <<< (p2 &&& 31)) ^^^ (-1 : Int32))))) else chk (inb p1 8) (k22 (((S19 375 p1.toNatClampNeg) ||| ((1 : Int32) <<< (p2 &&& 31)))))))) (fun k20 => (if (((S19 375 p1.toNatClampNeg) >>> (p2 &&& 31)) &&& (1 : Int32)) = (1 : Int32) then k20 (1 : Int32) else k20 (0 : Int32))))))) (fun k16 => (if x8 = (0 : Int32) then k16 (1 : Int32) else (if x15 = (0 : Int32) then k16 (0 : Int32) else k16 (2 : Int32))))) (fun k9 => joinK (fun (_ : Unit) => k9 (0 : Int32)) (fun k10 => (if x8 = (0 : Int32) then k10 () else (if p3 = (0 : Int32) then k10 () else jbin0 (f_X11_allNeeds S p2) (fun v11 _ => (if ((v11 >>> (p1 &&& 31)) &&& (1 : Int32)) = (1 : Int32) then k9 (1 : Int32) else k10 ()))))))) (fun k2 => joinK (fun (_ : Unit) => k2 (0 : Int32)) (fun k3 => (if v1 = (0 : Int32) then k3 () else jbin0 (f_X11_isFlag p2) (fun v4 _ => (if v4 = (0 : Int32) then k3 () else (if p1 = p2 then k3 () else k2 (1 : Int32))))))))
abbrev rm_X11_setNeed : Room := { frames := 2, cells := 0, slots := 0, locals := 42 }
set_option maxHeartbeats 4000000 in
set_option maxRecDepth 100000 in
theorem c_X11_setNeed {l : Launch} {D : va_G} {B t0 : Nat} (hl9 : l.stackTraces = false) (S : jS) (X9 : jMem) (z : Nat → Prop) (p1 : Int32) (p2 : Int32) (p3 : Int32) : jCf l D B t0 yX11_setNeed cX11_setNeed 7 (some .boolean) rm_X11_setNeed [.ref (B + 358), .int p1, .int p2, .int p3] (memG 358 387 D B S X9) z (f_X11_setNeed S p1 p2 p3) rvI (fun S9 M9 => M9 = memG 358 387 D B S9 X9) z := by
  refine jC_of hl9 (me_X11_setNeed).1 [(0, .ref (B + 358)), (1, .int p1), (2, .int p2), (3, .int p3)] ⟨by decide +kernel, Nat.le_of_ble_eq_true rfl⟩ rfl (fun κ hl hD hB hT X htab hin => ?_)
  subst hl hD hB hT
  have X : jX κ RX11 cX11_setNeed 7 (some .boolean) := X
  unfold f_X11_setNeed
  refine j_iload_n X 1 rfl dX11_setNeed_0 rfl ?_
  refine j_call0S X 0 0 (c_X11_isFlag X.tr (memG 358 387 (kD κ) (kB κ) S X9) z p1) me_X11_isFlag ml_X11_167 st_X11_isFlag dX11_setNeed_1 (rest := []) rfl rfl (by decide) (by decide) (Nat.le_of_ble_eq_true rfl) (fun v1 u33 M32 hM31 => ?_)
  subst M32
  refine j_st (st1 := [.int v1]) rfl ?_
  refine j_join (fun k2 => ∀ (x8 : Int32), J κ 7 rm_X11_setNeed (jQf κ rm_X11_setNeed rvI (fun S9 M9 => M9 = memG 358 387 (kD κ) (kB κ) S9 X9) z) (k2 x8) (memG 358 387 (kD κ) (kB κ) S X9) z 0 0 [(0, .ref (kB κ + 358)), (1, .int p1), (2, .int p2), (3, .int p3)] 24 [.int x8]) ?_ (fun k2 hk2 => ?_)
  · intro x8
    refine j_istore X [(4, .int x8), (0, .ref (kB κ + 358)), (1, .int p1), (2, .int p2), (3, .int p3)] dX11_setNeed_24 (by decide) rfl ?_
    refine j_iload X 0 rfl dX11_setNeed_26 ?_
    refine j_join (fun k9 => ∀ (x15 : Int32), J κ 7 rm_X11_setNeed (jQf κ rm_X11_setNeed rvI (fun S9 M9 => M9 = memG 358 387 (kD κ) (kB κ) S9 X9) z) (k9 x15) (memG 358 387 (kD κ) (kB κ) S X9) z 0 0 [(0, .ref (kB κ + 358)), (1, .int p1), (2, .int p2), (3, .int p3), (4, .int x8)] 53 [.int x15]) ?_ (fun k9 hk9 => ?_)
    · intro x15
      refine j_istore X [(5, .int x15), (0, .ref (kB κ + 358)), (1, .int p1), (2, .int p2), (3, .int p3), (4, .int x8)] dX11_setNeed_53 (by decide) rfl ?_
      refine j_aload_n X 1 rfl dX11_setNeed_55 rfl ?_
      refine j_iload X 5 rfl dX11_setNeed_56 ?_
      refine j_join (fun k16 => ∀ (x17 : Int32), J κ 7 rm_X11_setNeed (jQf κ rm_X11_setNeed rvI (fun S9 M9 => M9 = memG 358 387 (kD κ) (kB κ) S9 X9) z) (k16 x17) (memG 358 387 (kD κ) (kB κ) S X9) z 0 0 [(0, .ref (kB κ + 358)), (1, .int p1), (2, .int p2), (3, .int p3)] 75 [.int x17, .ref (kB κ + 358)]) ?_ (fun k16 hk16 => ?_)
      · intro x17
        refine j_call0V X 0 0 (c_X11_goesWell X.tr S X9 z x17) me_X11_goesWell ml_X11_107 iv_X11_goesWell cf_X11 dX11_setNeed_75 (memG_at kf_358) (rest := []) rfl rfl (by decide) (by decide) (Nat.le_of_ble_eq_true rfl) (fun v18 S19 M30 hM29 => ?_)
        subst M30
        refine j_st (st1 := [.int v18]) rfl ?_
        refine j_if_ne X 83 dX11_setNeed_78 (by decide) ?_ ?_
        · refine j_iconst X (0 : Int32) dX11_setNeed_81 (by rfl) ?_
          exact j_zret X dX11_setNeed_82 rfl (fun _ h => h)
        · refine j_aload_n X 0 rfl dX11_setNeed_83 rfl ?_
          refine g_getf X 18 kf_358 cf_X11 (by decide) fl_X11_59 dX11_setNeed_84 rfl rfl ?_
          refine j_iload_n X 1 rfl dX11_setNeed_87 rfl ?_
          refine g_iald X 8 kf_375 (by decide) dX11_setNeed_88 (fun h28 => ?_)
          refine j_iload_n X 2 rfl dX11_setNeed_89 rfl ?_
          refine j_ishr X dX11_setNeed_90 ?_
          refine j_iconst X (1 : Int32) dX11_setNeed_91 (by rfl) ?_
          refine j_iand X dX11_setNeed_92 ?_
          refine j_iconst X (1 : Int32) dX11_setNeed_93 (by rfl) ?_
          refine j_join (fun k20 => ∀ (x21 : Int32), J κ 7 rm_X11_setNeed (jQf κ rm_X11_setNeed rvI (fun S9 M9 => M9 = memG 358 387 (kD κ) (kB κ) S9 X9) z) (k20 x21) (memG 358 387 (kD κ) (kB κ) S19 X9) z 0 0 [(0, .ref (kB κ + 358)), (1, .int p1), (2, .int p2), (3, .int p3)] 102 [.int x21]) ?_ (fun k20 hk20 => ?_)
          · intro x21
            refine j_istore X [(6, .int x21), (0, .ref (kB κ + 358)), (1, .int p1), (2, .int p2), (3, .int p3)] dX11_setNeed_102 (by decide) rfl ?_
            refine j_aload_n X 1 rfl dX11_setNeed_104 rfl ?_
            refine g_getf X 18 kf_358 cf_X11 (by decide) fl_X11_59 dX11_setNeed_105 rfl rfl ?_
            refine j_iload_n X 2 rfl dX11_setNeed_108 rfl ?_
            refine j_iload_n X 4 rfl dX11_setNeed_109 rfl ?_
            refine j_join (fun k22 => ∀ (x25 : Int32), J κ 7 rm_X11_setNeed (jQf κ rm_X11_setNeed rvI (fun S9 M9 => M9 = memG 358 387 (kD κ) (kB κ) S9 X9) z) (k22 x25) (memG 358 387 (kD κ) (kB κ) S19 X9) z 0 0 [(6, .int x21)] 138 [.int x25, .int p1, .ref (kB κ + 375)]) ?_ (fun k22 hk22 => ?_)
            · intro x25
              refine g_iast X 8 kf_375 (by decide) dX11_setNeed_138 (fun h27 S26 => ?_)
              refine j_iload X 0 rfl dX11_setNeed_139 ?_
              exact j_zret X dX11_setNeed_141 rfl (fun _ h => h)
            · refine j_if_eq X 126 dX11_setNeed_110 (by decide) ?_ ?_
              · refine j_aload_n X 1 rfl dX11_setNeed_126 rfl ?_
                refine g_getf X 18 kf_358 cf_X11 (by decide) fl_X11_59 dX11_setNeed_127 rfl rfl ?_
                refine j_iload_n X 2 rfl dX11_setNeed_130 rfl ?_
                refine g_iald X 8 kf_375 (by decide) dX11_setNeed_131 (fun h23 => ?_)
                refine j_iconst X (1 : Int32) dX11_setNeed_132 (by rfl) ?_
                refine j_iload_n X 3 rfl dX11_setNeed_133 rfl ?_
                refine j_ishl X dX11_setNeed_134 ?_
                refine j_iconst X (-1 : Int32) dX11_setNeed_135 (by rfl) ?_
                refine j_ixor X dX11_setNeed_136 ?_
                refine j_iand X dX11_setNeed_137 ?_
                refine j_lv [0] rfl ?_
                exact hk22 (((S19 375 p1.toNatClampNeg) &&& (((1 : Int32) <<< (p2 &&& 31)) ^^^ (-1 : Int32))))
              · refine j_aload_n X 1 rfl dX11_setNeed_113 rfl ?_
                refine g_getf X 18 kf_358 cf_X11 (by decide) fl_X11_59 dX11_setNeed_114 rfl rfl ?_
                refine j_iload_n X 2 rfl dX11_setNeed_117 rfl ?_
                refine g_iald X 8 kf_375 (by decide) dX11_setNeed_118 (fun h24 => ?_)
                refine j_iconst X (1 : Int32) dX11_setNeed_119 (by rfl) ?_
                refine j_iload_n X 3 rfl dX11_setNeed_120 rfl ?_
                refine j_ishl X dX11_setNeed_121 ?_
                refine j_ior X dX11_setNeed_122 ?_
                refine j_goto X 138 dX11_setNeed_123 (by decide) ?_
                refine j_lv [0] rfl ?_
                exact hk22 (((S19 375 p1.toNatClampNeg) ||| ((1 : Int32) <<< (p2 &&& 31))))
          · refine j_icmp_ne X 101 dX11_setNeed_94 (by decide) ?_ ?_
            · refine j_iconst X (1 : Int32) dX11_setNeed_97 (by rfl) ?_
              refine j_goto X 102 dX11_setNeed_98 (by decide) ?_
              exact hk20 (1 : Int32)
            · refine j_iconst X (0 : Int32) dX11_setNeed_101 (by rfl) ?_
              exact hk20 (0 : Int32)
      · refine j_if_ne X 65 dX11_setNeed_58 (by decide) ?_ ?_
        · refine j_iconst X (1 : Int32) dX11_setNeed_61 (by rfl) ?_
          refine j_goto X 75 dX11_setNeed_62 (by decide) ?_
          refine j_lv [1, 2, 3, 4] rfl ?_
          exact hk16 (1 : Int32)
        · refine j_iload X 0 rfl dX11_setNeed_65 ?_
          refine j_if_eq X 74 dX11_setNeed_67 (by decide) ?_ ?_
          · refine j_iconst X (0 : Int32) dX11_setNeed_74 (by rfl) ?_
            refine j_lv [1, 2, 3, 4] rfl ?_
            exact hk16 (0 : Int32)
          · refine j_iconst X (2 : Int32) dX11_setNeed_70 (by rfl) ?_
            refine j_goto X 75 dX11_setNeed_71 (by decide) ?_
            refine j_lv [1, 2, 3, 4] rfl ?_
            exact hk16 (2 : Int32)
    · refine j_join (fun k10 => ∀ (_ : Unit), J κ 7 rm_X11_setNeed (jQf κ rm_X11_setNeed rvI (fun S9 M9 => M9 = memG 358 387 (kD κ) (kB κ) S9 X9) z) (k10 ()) (memG 358 387 (kD κ) (kB κ) S X9) z 0 0 [(0, .ref (kB κ + 358)), (1, .int p1), (2, .int p2), (3, .int p3), (4, .int x8)] 52 []) ?_ (fun k10 hk10 => ?_)
      · intro _
        refine j_iconst X (0 : Int32) dX11_setNeed_52 (by rfl) ?_
        exact hk9 (0 : Int32)
      · refine j_if_eq X 52 dX11_setNeed_28 (by decide) ?_ ?_
        · refine j_lv [1, 2, 3, 4, 0] rfl ?_
          exact hk10 ()
        · refine j_iload_n X 4 rfl dX11_setNeed_31 rfl ?_
          refine j_if_eq X 52 dX11_setNeed_32 (by decide) ?_ ?_
          · refine j_lv [1, 2, 3, 4, 0] rfl ?_
            exact hk10 ()
          · refine j_aload_n X 1 rfl dX11_setNeed_35 rfl ?_
            refine j_iload_n X 3 rfl dX11_setNeed_36 rfl ?_
            refine j_call0V X 0 0 (c_X11_allNeeds X.tr S X9 z p2) me_X11_allNeeds ml_X11_170 iv_X11_allNeeds cf_X11 dX11_setNeed_37 (memG_at kf_358) (rest := []) rfl rfl (by decide) (by decide) (Nat.le_of_ble_eq_true rfl) (fun v11 u14 M13 hM12 => ?_)
            subst M13
            refine j_st (st1 := [.int v11]) rfl ?_
            refine j_iload_n X 2 rfl dX11_setNeed_40 rfl ?_
            refine j_ishr X dX11_setNeed_41 ?_
            refine j_iconst X (1 : Int32) dX11_setNeed_42 (by rfl) ?_
            refine j_iand X dX11_setNeed_43 ?_
            refine j_iconst X (1 : Int32) dX11_setNeed_44 (by rfl) ?_
            refine j_icmp_ne X 52 dX11_setNeed_45 (by decide) ?_ ?_
            · refine j_iconst X (1 : Int32) dX11_setNeed_48 (by rfl) ?_
              refine j_goto X 53 dX11_setNeed_49 (by decide) ?_
              refine j_lv [1, 2, 3, 4, 0] rfl ?_
              exact hk9 (1 : Int32)
            · refine j_lv [1, 2, 3, 4, 0] rfl ?_
              exact hk10 ()
  · refine j_join (fun k3 => ∀ (_ : Unit), J κ 7 rm_X11_setNeed (jQf κ rm_X11_setNeed rvI (fun S9 M9 => M9 = memG 358 387 (kD κ) (kB κ) S9 X9) z) (k3 ()) (memG 358 387 (kD κ) (kB κ) S X9) z 0 0 [(0, .ref (kB κ + 358)), (1, .int p1), (2, .int p2), (3, .int p3)] 23 []) ?_ (fun k3 hk3 => ?_)
    · intro _
      refine j_iconst X (0 : Int32) dX11_setNeed_23 (by rfl) ?_
      exact hk2 (0 : Int32)
    · refine j_if_eq X 23 dX11_setNeed_4 (by decide) ?_ ?_
      · exact hk3 ()
      · refine j_iload_n X 2 rfl dX11_setNeed_7 rfl ?_
        refine j_call0S X 0 0 (c_X11_isFlag X.tr (memG 358 387 (kD κ) (kB κ) S X9) z p2) me_X11_isFlag ml_X11_167 st_X11_isFlag dX11_setNeed_8 (rest := []) rfl rfl (by decide) (by decide) (Nat.le_of_ble_eq_true rfl) (fun v4 u7 M6 hM5 => ?_)
        subst M6
        refine j_st (st1 := [.int v4]) rfl ?_
        refine j_if_eq X 23 dX11_setNeed_11 (by decide) ?_ ?_
        · exact hk3 ()
        · refine j_iload_n X 1 rfl dX11_setNeed_14 rfl ?_
          refine j_iload_n X 2 rfl dX11_setNeed_15 rfl ?_
          refine j_icmp_eq X 23 dX11_setNeed_16 (by decide) ?_ ?_
          · exact hk3 ()
          · refine j_iconst X (1 : Int32) dX11_setNeed_19 (by rfl) ?_
            refine j_goto X 24 dX11_setNeed_20 (by decide) ?_
            exact hk2 (1 : Int32)
def f_X11_viewByLog (S : jS) (p1 : Int32) (p2 : Int32) : Option (jR jS) := jbin0 (f_X11_isPerson p1) (fun v1 _ => joinK (fun (x8 : Int32) => jbin0 (f_X11_goesWell S x8) (fun v9 S10 => (if v9 = (0 : Int32) then some (0, (0 : Int32), S10) else jbin0 (f_X11_findViews S10) (fun _ S11 => chk (inb ((((8 : Int32) * p1) + p2)) 160) (some (0, (S11 376 ((((8 : Int32) * p1) + p2)).toNatClampNeg), S11)))))) (fun k2 => joinK (fun (_ : Unit) => k2 (1 : Int32)) (fun k3 => (if v1 = (0 : Int32) then k3 () else jbin0 (f_X11_isFlag p2) (fun v4 _ => (if v4 = (0 : Int32) then k3 () else k2 (0 : Int32)))))))
abbrev rm_X11_viewByLog : Room := { frames := 7, cells := 0, slots := 0, locals := 166 }
set_option maxHeartbeats 4000000 in
set_option maxRecDepth 100000 in
theorem c_X11_viewByLog {l : Launch} {D : va_G} {B t0 : Nat} (hl9 : l.stackTraces = false) (S : jS) (X9 : jMem) (z : Nat → Prop) (p1 : Int32) (p2 : Int32) : jCf l D B t0 yX11_viewByLog cX11_viewByLog 3 (some .int) rm_X11_viewByLog [.ref (B + 358), .int p1, .int p2] (memG 358 387 D B S X9) z (f_X11_viewByLog S p1 p2) rvI (fun S9 M9 => M9 = memG 358 387 D B S9 X9) z := by
  refine jC_of hl9 (me_X11_viewByLog).1 [(0, .ref (B + 358)), (1, .int p1), (2, .int p2)] ⟨by decide +kernel, Nat.le_of_ble_eq_true rfl⟩ rfl (fun κ hl hD hB hT X htab hin => ?_)
  subst hl hD hB hT
  have X : jX κ RX11 cX11_viewByLog 3 (some .int) := X
  unfold f_X11_viewByLog
  refine j_aload_n X 0 rfl dX11_viewByLog_0 rfl ?_
  refine j_iload_n X 1 rfl dX11_viewByLog_1 rfl ?_
  refine j_call0S X 0 0 (c_X11_isPerson X.tr (memG 358 387 (kD κ) (kB κ) S X9) z p1) me_X11_isPerson ml_X11_103 st_X11_isPerson dX11_viewByLog_2 (rest := [.ref (kB κ + 358)]) rfl rfl (by decide) (by decide) (Nat.le_of_ble_eq_true rfl) (fun v1 u20 M19 hM18 => ?_)
  subst M19
  refine j_st (st1 := [.int v1, .ref (kB κ + 358)]) rfl ?_
  refine j_join (fun k2 => ∀ (x8 : Int32), J κ 3 rm_X11_viewByLog (jQf κ rm_X11_viewByLog rvI (fun S9 M9 => M9 = memG 358 387 (kD κ) (kB κ) S9 X9) z) (k2 x8) (memG 358 387 (kD κ) (kB κ) S X9) z 0 0 [(0, .ref (kB κ + 358)), (1, .int p1), (2, .int p2)] 20 [.int x8, .ref (kB κ + 358)]) ?_ (fun k2 hk2 => ?_)
  · intro x8
    refine j_call0V X 0 0 (c_X11_goesWell X.tr S X9 z x8) me_X11_goesWell ml_X11_107 iv_X11_goesWell cf_X11 dX11_viewByLog_20 (memG_at kf_358) (rest := []) rfl rfl (by decide) (by decide) (Nat.le_of_ble_eq_true rfl) (fun v9 S10 M17 hM16 => ?_)
    subst M17
    refine j_st (st1 := [.int v9]) rfl ?_
    refine j_if_ne X 28 dX11_viewByLog_23 (by decide) ?_ ?_
    · refine j_iconst X (0 : Int32) dX11_viewByLog_26 (by rfl) ?_
      exact j_iret X dX11_viewByLog_27 rfl (fun _ h => h)
    · refine j_aload_n X 0 rfl dX11_viewByLog_28 rfl ?_
      refine j_call0V X 0 0 (c_X11_findViews X.tr S10 X9 z) me_X11_findViews ml_X11_164 iv_X11_findViews cf_X11 dX11_viewByLog_29 (memG_at kf_358) (rest := []) rfl rfl (by decide) (by decide) (Nat.le_of_ble_eq_true rfl) (fun v15 S11 M14 hM13 => ?_)
      subst M14
      refine j_st (st1 := []) rfl ?_
      refine j_aload_n X 0 rfl dX11_viewByLog_32 rfl ?_
      refine g_getf X 19 kf_358 cf_X11 (by decide) fl_X11_62 dX11_viewByLog_33 rfl rfl ?_
      refine j_bipush X (8 : Int32) dX11_viewByLog_36 (by rfl) ?_
      refine j_iload_n X 1 rfl dX11_viewByLog_38 rfl ?_
      refine j_imul X dX11_viewByLog_39 ?_
      refine j_iload_n X 2 rfl dX11_viewByLog_40 rfl ?_
      refine j_iadd X dX11_viewByLog_41 ?_
      refine g_iald X 160 kf_376 (by decide) dX11_viewByLog_42 (fun h12 => ?_)
      exact j_iret X dX11_viewByLog_43 rfl (fun _ h => h)
  · refine j_join (fun k3 => ∀ (_ : Unit), J κ 3 rm_X11_viewByLog (jQf κ rm_X11_viewByLog rvI (fun S9 M9 => M9 = memG 358 387 (kD κ) (kB κ) S9 X9) z) (k3 ()) (memG 358 387 (kD κ) (kB κ) S X9) z 0 0 [(0, .ref (kB κ + 358)), (1, .int p1), (2, .int p2)] 19 [.ref (kB κ + 358)]) ?_ (fun k3 hk3 => ?_)
    · intro _
      refine j_iconst X (1 : Int32) dX11_viewByLog_19 (by rfl) ?_
      exact hk2 (1 : Int32)
    · refine j_if_eq X 19 dX11_viewByLog_5 (by decide) ?_ ?_
      · exact hk3 ()
      · refine j_iload_n X 2 rfl dX11_viewByLog_8 rfl ?_
        refine j_call0S X 0 0 (c_X11_isFlag X.tr (memG 358 387 (kD κ) (kB κ) S X9) z p2) me_X11_isFlag ml_X11_167 st_X11_isFlag dX11_viewByLog_9 (rest := [.ref (kB κ + 358)]) rfl rfl (by decide) (by decide) (Nat.le_of_ble_eq_true rfl) (fun v4 u7 M6 hM5 => ?_)
        subst M6
        refine j_st (st1 := [.int v4, .ref (kB κ + 358)]) rfl ?_
        refine j_if_eq X 19 dX11_viewByLog_12 (by decide) ?_ ?_
        · exact hk3 ()
        · refine j_iconst X (0 : Int32) dX11_viewByLog_15 (by rfl) ?_
          refine j_goto X 20 dX11_viewByLog_16 (by decide) ?_
          exact hk2 (0 : Int32)
def f_X11_view (S : jS) (p1 : Int32) (p2 : Int32) : Option (jR jS) := jbin0 (f_X11_viewByLog S p1 p2) (fun v1 S2 => some (0, v1, S2))
abbrev rm_X11_view : Room := { frames := 8, cells := 0, slots := 0, locals := 188 }
set_option maxHeartbeats 4000000 in
set_option maxRecDepth 100000 in
theorem c_X11_view {l : Launch} {D : va_G} {B t0 : Nat} (hl9 : l.stackTraces = false) (S : jS) (X9 : jMem) (z : Nat → Prop) (p1 : Int32) (p2 : Int32) : jCf l D B t0 yX11_view cX11_view 3 (some .int) rm_X11_view [.ref (B + 358), .int p1, .int p2] (memG 358 387 D B S X9) z (f_X11_view S p1 p2) rvI (fun S9 M9 => M9 = memG 358 387 D B S9 X9) z := by
  refine jC_of hl9 (me_X11_view).1 [(0, .ref (B + 358)), (1, .int p1), (2, .int p2)] ⟨by decide +kernel, Nat.le_of_ble_eq_true rfl⟩ rfl (fun κ hl hD hB hT X htab hin => ?_)
  subst hl hD hB hT
  have X : jX κ RX11 cX11_view 3 (some .int) := X
  unfold f_X11_view
  refine j_aload_n X 0 rfl dX11_view_0 rfl ?_
  refine j_iload_n X 1 rfl dX11_view_1 rfl ?_
  refine j_iload_n X 2 rfl dX11_view_2 rfl ?_
  refine j_call0V X 0 0 (c_X11_viewByLog X.tr S X9 z p1 p2) me_X11_viewByLog ml_X11_185 iv_X11_viewByLog cf_X11 dX11_view_3 (memG_at kf_358) (rest := []) rfl rfl (by decide) (by decide) (Nat.le_of_ble_eq_true rfl) (fun v1 S2 M4 hM3 => ?_)
  subst M4
  refine j_st (st1 := [.int v1]) rfl ?_
  exact j_iret X dX11_view_6 rfl (fun _ h => h)
def f_X11_ruleFor (S : jS) (p1 : Int32) (p2 : Int32) : Option (jR jS) := jbin0 (f_X11_isPerson p1) (fun v1 _ => joinK (fun (x8 : Int32) => jbin0 (f_X11_goesWell S x8) (fun v9 S10 => (if v9 = (0 : Int32) then some (0, (0 : Int32), S10) else jbin0 (f_X11_gather S10) (fun _ S11 => jbin0 (f_X11_ruleNow S11 p1 p2) (fun v12 _ => some (0, v12, S11)))))) (fun k2 => joinK (fun (_ : Unit) => k2 (1 : Int32)) (fun k3 => (if v1 = (0 : Int32) then k3 () else jbin0 (f_X11_isFlag p2) (fun v4 _ => (if v4 = (0 : Int32) then k3 () else k2 (0 : Int32)))))))
abbrev rm_X11_ruleFor : Room := { frames := 6, cells := 0, slots := 0, locals := 144 }
set_option maxHeartbeats 4000000 in
set_option maxRecDepth 100000 in
theorem c_X11_ruleFor {l : Launch} {D : va_G} {B t0 : Nat} (hl9 : l.stackTraces = false) (S : jS) (X9 : jMem) (z : Nat → Prop) (p1 : Int32) (p2 : Int32) : jCf l D B t0 yX11_ruleFor cX11_ruleFor 3 (some .int) rm_X11_ruleFor [.ref (B + 358), .int p1, .int p2] (memG 358 387 D B S X9) z (f_X11_ruleFor S p1 p2) rvI (fun S9 M9 => M9 = memG 358 387 D B S9 X9) z := by
  refine jC_of hl9 (me_X11_ruleFor).1 [(0, .ref (B + 358)), (1, .int p1), (2, .int p2)] ⟨by decide +kernel, Nat.le_of_ble_eq_true rfl⟩ rfl (fun κ hl hD hB hT X htab hin => ?_)
  subst hl hD hB hT
  have X : jX κ RX11 cX11_ruleFor 3 (some .int) := X
  unfold f_X11_ruleFor
  refine j_aload_n X 0 rfl dX11_ruleFor_0 rfl ?_
  refine j_iload_n X 1 rfl dX11_ruleFor_1 rfl ?_
  refine j_call0S X 0 0 (c_X11_isPerson X.tr (memG 358 387 (kD κ) (kB κ) S X9) z p1) me_X11_isPerson ml_X11_103 st_X11_isPerson dX11_ruleFor_2 (rest := [.ref (kB κ + 358)]) rfl rfl (by decide) (by decide) (Nat.le_of_ble_eq_true rfl) (fun v1 u23 M22 hM21 => ?_)
  subst M22
  refine j_st (st1 := [.int v1, .ref (kB κ + 358)]) rfl ?_
  refine j_join (fun k2 => ∀ (x8 : Int32), J κ 3 rm_X11_ruleFor (jQf κ rm_X11_ruleFor rvI (fun S9 M9 => M9 = memG 358 387 (kD κ) (kB κ) S9 X9) z) (k2 x8) (memG 358 387 (kD κ) (kB κ) S X9) z 0 0 [(0, .ref (kB κ + 358)), (1, .int p1), (2, .int p2)] 20 [.int x8, .ref (kB κ + 358)]) ?_ (fun k2 hk2 => ?_)
  · intro x8
    refine j_call0V X 0 0 (c_X11_goesWell X.tr S X9 z x8) me_X11_goesWell ml_X11_107 iv_X11_goesWell cf_X11 dX11_ruleFor_20 (memG_at kf_358) (rest := []) rfl rfl (by decide) (by decide) (Nat.le_of_ble_eq_true rfl) (fun v9 S10 M20 hM19 => ?_)
    subst M20
    refine j_st (st1 := [.int v9]) rfl ?_
    refine j_if_ne X 28 dX11_ruleFor_23 (by decide) ?_ ?_
    · refine j_iconst X (0 : Int32) dX11_ruleFor_26 (by rfl) ?_
      exact j_iret X dX11_ruleFor_27 rfl (fun _ h => h)
    · refine j_aload_n X 0 rfl dX11_ruleFor_28 rfl ?_
      refine j_call0V X 0 0 (c_X11_gather X.tr S10 X9 z) me_X11_gather ml_X11_155 iv_X11_gather cf_X11 dX11_ruleFor_29 (memG_at kf_358) (rest := []) rfl rfl (by decide) (by decide) (Nat.le_of_ble_eq_true rfl) (fun v18 S11 M17 hM16 => ?_)
      subst M17
      refine j_st (st1 := []) rfl ?_
      refine j_aload_n X 0 rfl dX11_ruleFor_32 rfl ?_
      refine j_iload_n X 1 rfl dX11_ruleFor_33 rfl ?_
      refine j_iload_n X 2 rfl dX11_ruleFor_34 rfl ?_
      refine j_call0V X 0 0 (c_X11_ruleNow X.tr S11 X9 z p1 p2) me_X11_ruleNow ml_X11_176 iv_X11_ruleNow cf_X11 dX11_ruleFor_35 (memG_at kf_358) (rest := []) rfl rfl (by decide) (by decide) (Nat.le_of_ble_eq_true rfl) (fun v12 u15 M14 hM13 => ?_)
      subst M14
      refine j_st (st1 := [.int v12]) rfl ?_
      exact j_iret X dX11_ruleFor_38 rfl (fun _ h => h)
  · refine j_join (fun k3 => ∀ (_ : Unit), J κ 3 rm_X11_ruleFor (jQf κ rm_X11_ruleFor rvI (fun S9 M9 => M9 = memG 358 387 (kD κ) (kB κ) S9 X9) z) (k3 ()) (memG 358 387 (kD κ) (kB κ) S X9) z 0 0 [(0, .ref (kB κ + 358)), (1, .int p1), (2, .int p2)] 19 [.ref (kB κ + 358)]) ?_ (fun k3 hk3 => ?_)
    · intro _
      refine j_iconst X (1 : Int32) dX11_ruleFor_19 (by rfl) ?_
      exact hk2 (1 : Int32)
    · refine j_if_eq X 19 dX11_ruleFor_5 (by decide) ?_ ?_
      · exact hk3 ()
      · refine j_iload_n X 2 rfl dX11_ruleFor_8 rfl ?_
        refine j_call0S X 0 0 (c_X11_isFlag X.tr (memG 358 387 (kD κ) (kB κ) S X9) z p2) me_X11_isFlag ml_X11_167 st_X11_isFlag dX11_ruleFor_9 (rest := [.ref (kB κ + 358)]) rfl rfl (by decide) (by decide) (Nat.le_of_ble_eq_true rfl) (fun v4 u7 M6 hM5 => ?_)
        subst M6
        refine j_st (st1 := [.int v4, .ref (kB κ + 358)]) rfl ?_
        refine j_if_eq X 19 dX11_ruleFor_12 (by decide) ?_ ?_
        · exact hk3 ()
        · refine j_iconst X (0 : Int32) dX11_ruleFor_15 (by rfl) ?_
          refine j_goto X 20 dX11_ruleFor_16 (by decide) ?_
          exact hk2 (0 : Int32)
def f_X11_reach (S : jS) (p1 : Int32) (p2 : Int32) : Option (jR jS) := jbin0 (f_X11_isFlag p1) (fun v1 _ => joinK (fun (x8 : Int32) => jbin0 (f_X11_goesWell S x8) (fun v9 S10 => (if v9 = (0 : Int32) then some (0, (0 : Int32), S10) else jbin0 (f_X11_findViews S10) (fun _ S11 => loopK (fun (rec12 : Int32 → Int32 → Option (jR jS)) (x13 : Int32) (x14 : Int32) => (if (20 : Int32) ≤ x14 then some (0, x13, S11) else chk (inb ((((8 : Int32) * x14) + p1)) 160) (joinK (fun (x16 : Int32) => letE (x13 + x16) fun x17 => letE (x14 + (1 : Int32)) fun x18 => rec12 x17 x18) (fun k15 => (if (S11 376 ((((8 : Int32) * x14) + p1)).toNatClampNeg) = p2 then k15 (1 : Int32) else k15 (0 : Int32)))))) (fun _ _ => none) 1000 (0 : Int32) (0 : Int32))))) (fun k2 => joinK (fun (_ : Unit) => k2 (1 : Int32)) (fun k3 => (if v1 = (0 : Int32) then k3 () else jbin0 (f_X11_isVariant p2) (fun v4 _ => (if v4 = (0 : Int32) then k3 () else k2 (0 : Int32)))))))
abbrev rm_X11_reach : Room := { frames := 7, cells := 0, slots := 0, locals := 166 }
set_option maxHeartbeats 4000000 in
set_option maxRecDepth 100000 in
theorem c_X11_reach {l : Launch} {D : va_G} {B t0 : Nat} (hl9 : l.stackTraces = false) (S : jS) (X9 : jMem) (z : Nat → Prop) (p1 : Int32) (p2 : Int32) : jCf l D B t0 yX11_reach cX11_reach 5 (some .int) rm_X11_reach [.ref (B + 358), .int p1, .int p2] (memG 358 387 D B S X9) z (f_X11_reach S p1 p2) rvI (fun S9 M9 => M9 = memG 358 387 D B S9 X9) z := by
  refine jC_of hl9 (me_X11_reach).1 [(0, .ref (B + 358)), (1, .int p1), (2, .int p2)] ⟨by decide +kernel, Nat.le_of_ble_eq_true rfl⟩ rfl (fun κ hl hD hB hT X htab hin => ?_)
  subst hl hD hB hT
  have X : jX κ RX11 cX11_reach 5 (some .int) := X
  unfold f_X11_reach
  refine j_aload_n X 0 rfl dX11_reach_0 rfl ?_
  refine j_iload_n X 1 rfl dX11_reach_1 rfl ?_
  refine j_call0S X 0 0 (c_X11_isFlag X.tr (memG 358 387 (kD κ) (kB κ) S X9) z p1) me_X11_isFlag ml_X11_167 st_X11_isFlag dX11_reach_2 (rest := [.ref (kB κ + 358)]) rfl rfl (by decide) (by decide) (Nat.le_of_ble_eq_true rfl) (fun v1 u27 M26 hM25 => ?_)
  subst M26
  refine j_st (st1 := [.int v1, .ref (kB κ + 358)]) rfl ?_
  refine j_join (fun k2 => ∀ (x8 : Int32), J κ 5 rm_X11_reach (jQf κ rm_X11_reach rvI (fun S9 M9 => M9 = memG 358 387 (kD κ) (kB κ) S9 X9) z) (k2 x8) (memG 358 387 (kD κ) (kB κ) S X9) z 0 0 [(0, .ref (kB κ + 358)), (1, .int p1), (2, .int p2)] 20 [.int x8, .ref (kB κ + 358)]) ?_ (fun k2 hk2 => ?_)
  · intro x8
    refine j_call0V X 0 0 (c_X11_goesWell X.tr S X9 z x8) me_X11_goesWell ml_X11_107 iv_X11_goesWell cf_X11 dX11_reach_20 (memG_at kf_358) (rest := []) rfl rfl (by decide) (by decide) (Nat.le_of_ble_eq_true rfl) (fun v9 S10 M24 hM23 => ?_)
    subst M24
    refine j_st (st1 := [.int v9]) rfl ?_
    refine j_if_ne X 28 dX11_reach_23 (by decide) ?_ ?_
    · refine j_iconst X (0 : Int32) dX11_reach_26 (by rfl) ?_
      exact j_iret X dX11_reach_27 rfl (fun _ h => h)
    · refine j_aload_n X 0 rfl dX11_reach_28 rfl ?_
      refine j_call0V X 0 0 (c_X11_findViews X.tr S10 X9 z) me_X11_findViews ml_X11_164 iv_X11_findViews cf_X11 dX11_reach_29 (memG_at kf_358) (rest := []) rfl rfl (by decide) (by decide) (Nat.le_of_ble_eq_true rfl) (fun v22 S11 M21 hM20 => ?_)
      subst M21
      refine j_st (st1 := []) rfl ?_
      refine j_iconst X (0 : Int32) dX11_reach_32 (by rfl) ?_
      refine j_istore_n X [(3, .int (0 : Int32)), (0, .ref (kB κ + 358)), (1, .int p1), (2, .int p2)] dX11_reach_33 rfl (by decide) rfl ?_
      refine j_iconst X (0 : Int32) dX11_reach_34 (by rfl) ?_
      refine j_istore X [(4, .int (0 : Int32)), (3, .int (0 : Int32)), (0, .ref (kB κ + 358)), (1, .int p1), (2, .int p2)] dX11_reach_35 (by decide) rfl ?_
      refine j_lv [2, 3, 4, 1, 0] rfl ?_
      refine j_loop (fun (k : Int32 → Int32 → Option (jR jS)) => ∀ (x13 : Int32) (x14 : Int32), J κ 5 rm_X11_reach (jQf κ rm_X11_reach rvI (fun S9 M9 => M9 = memG 358 387 (kD κ) (kB κ) S9 X9) z) (k x13 x14) (memG 358 387 (kD κ) (kB κ) S11 X9) z 0 0 [(0, .ref (kB κ + 358)), (1, .int p1), (2, .int p2), (3, .int x13), (4, .int x14)] 37 []) (fun _ _ => j_none) (fun rec12 hrec12 => ?_) 1000 _ _
      intro x13 x14
      refine j_iload X 4 rfl dX11_reach_37 ?_
      refine j_bipush X (20 : Int32) dX11_reach_39 (by rfl) ?_
      refine j_icmp_ge X 74 dX11_reach_41 (by decide) ?_ ?_
      · refine j_iload_n X 3 rfl dX11_reach_74 rfl ?_
        exact j_iret X dX11_reach_75 rfl (fun _ h => h)
      · refine j_iload_n X 3 rfl dX11_reach_44 rfl ?_
        refine j_aload_n X 0 rfl dX11_reach_45 rfl ?_
        refine g_getf X 19 kf_358 cf_X11 (by decide) fl_X11_62 dX11_reach_46 rfl rfl ?_
        refine j_bipush X (8 : Int32) dX11_reach_49 (by rfl) ?_
        refine j_iload X 4 rfl dX11_reach_51 ?_
        refine j_imul X dX11_reach_53 ?_
        refine j_iload_n X 1 rfl dX11_reach_54 rfl ?_
        refine j_iadd X dX11_reach_55 ?_
        refine g_iald X 160 kf_376 (by decide) dX11_reach_56 (fun h19 => ?_)
        refine j_iload_n X 2 rfl dX11_reach_57 rfl ?_
        refine j_join (fun k15 => ∀ (x16 : Int32), J κ 5 rm_X11_reach (jQf κ rm_X11_reach rvI (fun S9 M9 => M9 = memG 358 387 (kD κ) (kB κ) S9 X9) z) (k15 x16) (memG 358 387 (kD κ) (kB κ) S11 X9) z 0 0 [(0, .ref (kB κ + 358)), (1, .int p1), (2, .int p2), (4, .int x14)] 66 [.int x16, .int x13]) ?_ (fun k15 hk15 => ?_)
        · intro x16
          refine j_iadd X dX11_reach_66 ?_
          refine j_letE (fun x17 => ?_)
          refine j_istore_n X [(3, .int x17), (0, .ref (kB κ + 358)), (1, .int p1), (2, .int p2), (4, .int x14)] dX11_reach_67 rfl (by decide) rfl ?_
          refine j_iincL X 4 (fun x18 => [(4, .int x18), (3, .int x17), (0, .ref (kB κ + 358)), (1, .int p1), (2, .int p2)]) dX11_reach_68 rfl (by rfl) (by decide) (fun _ => rfl) (fun x18 => ?_)
          refine j_goto X 37 dX11_reach_71 (by decide) ?_
          refine j_lv [2, 3, 4, 1, 0] rfl ?_
          exact hrec12 x17 x18
        · refine j_icmp_ne X 65 dX11_reach_58 (by decide) ?_ ?_
          · refine j_iconst X (1 : Int32) dX11_reach_61 (by rfl) ?_
            refine j_goto X 66 dX11_reach_62 (by decide) ?_
            refine j_lv [0, 1, 2, 4] rfl ?_
            exact hk15 (1 : Int32)
          · refine j_iconst X (0 : Int32) dX11_reach_65 (by rfl) ?_
            refine j_lv [0, 1, 2, 4] rfl ?_
            exact hk15 (0 : Int32)
  · refine j_join (fun k3 => ∀ (_ : Unit), J κ 5 rm_X11_reach (jQf κ rm_X11_reach rvI (fun S9 M9 => M9 = memG 358 387 (kD κ) (kB κ) S9 X9) z) (k3 ()) (memG 358 387 (kD κ) (kB κ) S X9) z 0 0 [(0, .ref (kB κ + 358)), (1, .int p1), (2, .int p2)] 19 [.ref (kB κ + 358)]) ?_ (fun k3 hk3 => ?_)
    · intro _
      refine j_iconst X (1 : Int32) dX11_reach_19 (by rfl) ?_
      exact hk2 (1 : Int32)
    · refine j_if_eq X 19 dX11_reach_5 (by decide) ?_ ?_
      · exact hk3 ()
      · refine j_iload_n X 2 rfl dX11_reach_8 rfl ?_
        refine j_call0S X 0 0 (c_X11_isVariant X.tr (memG 358 387 (kD κ) (kB κ) S X9) z p2) me_X11_isVariant ml_X11_188 st_X11_isVariant dX11_reach_9 (rest := [.ref (kB κ + 358)]) rfl rfl (by decide) (by decide) (Nat.le_of_ble_eq_true rfl) (fun v4 u7 M6 hM5 => ?_)
        subst M6
        refine j_st (st1 := [.int v4, .ref (kB κ + 358)]) rfl ?_
        refine j_if_eq X 19 dX11_reach_12 (by decide) ?_ ?_
        · exact hk3 ()
        · refine j_iconst X (0 : Int32) dX11_reach_15 (by rfl) ?_
          refine j_goto X 20 dX11_reach_16 (by decide) ?_
          exact hk2 (0 : Int32)
def f_X11_show (S : jS) (p1 : Int32) (p2 : Int32) : Option (jR jS) := jbin0 (f_X11_isPerson p1) (fun v1 _ => joinK (fun (x8 : Int32) => joinK (fun (x10 : Int32) => jbin0 (f_X11_goesWell S x10) (fun v11 S12 => (if v11 = (0 : Int32) then some (0, (0 : Int32), S12) else jbin0 (f_X11_findViews S12) (fun _ S13 => letE ((((8 : Int32) * p1) + p2)) fun x14 => chk (inb x14 160) (letE (S13 376 x14.toNatClampNeg) fun x15 => chk (inb x14 160) (joinK (fun (x26 : Int32) => joinK (fun (x29 : Int32) => joinK (fun (S42 : jS) => chk (inb x14 160) (letE (jset S42 386 x14.toNatClampNeg ((x15 + (1 : Int32)))) fun S43 => letE (jset S43 358 30 (((S43 358 30) + (1 : Int32)))) fun S44 => some (0, x15, S44))) (fun k30 => (if x29 < (0 : Int32) then k30 S13 else chk (inb ((((160 : Int32) * x29) + x14)) 960) (letE (jset S13 382 ((((160 : Int32) * x29) + x14)).toNatClampNeg ((x15 + (1 : Int32)))) fun S31 => letE ((((20 : Int32) * x29) + p1)) fun x32 => chk (inb x29 6) (joinK (fun (x37 : Int32) => chk (inb x32 120) (letE (jset S31 381 x32.toNatClampNeg x37) fun S38 => k30 S38)) (fun k33 => joinK (fun (_ : Unit) => chk (inb x32 120) (k33 (S31 381 x32.toNatClampNeg))) (fun k34 => (if (S31 380 x29.toNatClampNeg) = (0 : Int32) then chk (inb x32 120) ((if (S31 381 x32.toNatClampNeg) = (0 : Int32) then k33 ((x15 + (1 : Int32))) else k34 ())) else k34 ())))))))) (fun k27 => (if x26 = (-1 : Int32) then k27 (-1 : Int32) else chk (inb ((((5 : Int32) * p2) + x26)) 40) (k27 (((S13 374 ((((5 : Int32) * p2) + x26)).toNatClampNeg) - (4 : Int32))))))) (fun k16 => joinK (fun (_ : Unit) => k16 (-1 : Int32)) (fun k17 => (if (S13 384 x14.toNatClampNeg) = (0 : Int32) then jbin0 (f_X11_lacksNeed S13 p1 p2) (fun v18 _ => (if v18 = (0 : Int32) then jbin0 (f_X11_ruleNow S13 p1 p2) (fun v19 _ => k16 v19) else k17 ())) else k17 ()))))))))) (fun k9 => (if x8 = (0 : Int32) then k9 (1 : Int32) else (if (S 358 30) = (400 : Int32) then k9 (2 : Int32) else k9 (0 : Int32))))) (fun k2 => joinK (fun (_ : Unit) => k2 (0 : Int32)) (fun k3 => (if v1 = (0 : Int32) then k3 () else jbin0 (f_X11_isFlag p2) (fun v4 _ => (if v4 = (0 : Int32) then k3 () else k2 (1 : Int32)))))))
abbrev rm_X11_show : Room := { frames := 7, cells := 0, slots := 0, locals := 166 }
set_option maxHeartbeats 4000000 in
set_option maxRecDepth 100000 in
theorem c_X11_show {l : Launch} {D : va_G} {B t0 : Nat} (hl9 : l.stackTraces = false) (S : jS) (X9 : jMem) (z : Nat → Prop) (p1 : Int32) (p2 : Int32) : jCf l D B t0 yX11_show cX11_show 9 (some .int) rm_X11_show [.ref (B + 358), .int p1, .int p2] (memG 358 387 D B S X9) z (f_X11_show S p1 p2) rvI (fun S9 M9 => M9 = memG 358 387 D B S9 X9) z := by
  refine jC_of hl9 (me_X11_show).1 [(0, .ref (B + 358)), (1, .int p1), (2, .int p2)] ⟨by decide +kernel, Nat.le_of_ble_eq_true rfl⟩ rfl (fun κ hl hD hB hT X htab hin => ?_)
  subst hl hD hB hT
  have X : jX κ RX11 cX11_show 9 (some .int) := X
  unfold f_X11_show
  refine j_iload_n X 1 rfl dX11_show_0 rfl ?_
  refine j_call0S X 0 0 (c_X11_isPerson X.tr (memG 358 387 (kD κ) (kB κ) S X9) z p1) me_X11_isPerson ml_X11_103 st_X11_isPerson dX11_show_1 (rest := []) rfl rfl (by decide) (by decide) (Nat.le_of_ble_eq_true rfl) (fun v1 u55 M54 hM53 => ?_)
  subst M54
  refine j_st (st1 := [.int v1]) rfl ?_
  refine j_join (fun k2 => ∀ (x8 : Int32), J κ 9 rm_X11_show (jQf κ rm_X11_show rvI (fun S9 M9 => M9 = memG 358 387 (kD κ) (kB κ) S9 X9) z) (k2 x8) (memG 358 387 (kD κ) (kB κ) S X9) z 0 0 [(0, .ref (kB κ + 358)), (1, .int p1), (2, .int p2)] 19 [.int x8]) ?_ (fun k2 hk2 => ?_)
  · intro x8
    refine j_istore_n X [(3, .int x8), (0, .ref (kB κ + 358)), (1, .int p1), (2, .int p2)] dX11_show_19 rfl (by decide) rfl ?_
    refine j_aload_n X 1 rfl dX11_show_20 rfl ?_
    refine j_iload_n X 0 rfl dX11_show_21 rfl ?_
    refine j_join (fun k9 => ∀ (x10 : Int32), J κ 9 rm_X11_show (jQf κ rm_X11_show rvI (fun S9 M9 => M9 = memG 358 387 (kD κ) (kB κ) S9 X9) z) (k9 x10) (memG 358 387 (kD κ) (kB κ) S X9) z 0 0 [(0, .ref (kB κ + 358)), (1, .int p1), (2, .int p2)] 44 [.int x10, .ref (kB κ + 358)]) ?_ (fun k9 hk9 => ?_)
    · intro x10
      refine j_call0V X 0 0 (c_X11_goesWell X.tr S X9 z x10) me_X11_goesWell ml_X11_107 iv_X11_goesWell cf_X11 dX11_show_44 (memG_at kf_358) (rest := []) rfl rfl (by decide) (by decide) (Nat.le_of_ble_eq_true rfl) (fun v11 S12 M52 hM51 => ?_)
      subst M52
      refine j_st (st1 := [.int v11]) rfl ?_
      refine j_if_ne X 52 dX11_show_47 (by decide) ?_ ?_
      · refine j_iconst X (0 : Int32) dX11_show_50 (by rfl) ?_
        exact j_iret X dX11_show_51 rfl (fun _ h => h)
      · refine j_aload_n X 0 rfl dX11_show_52 rfl ?_
        refine j_call0V X 0 0 (c_X11_findViews X.tr S12 X9 z) me_X11_findViews ml_X11_164 iv_X11_findViews cf_X11 dX11_show_53 (memG_at kf_358) (rest := []) rfl rfl (by decide) (by decide) (Nat.le_of_ble_eq_true rfl) (fun v50 S13 M49 hM48 => ?_)
        subst M49
        refine j_st (st1 := []) rfl ?_
        refine j_bipush X (8 : Int32) dX11_show_56 (by rfl) ?_
        refine j_iload_n X 1 rfl dX11_show_58 rfl ?_
        refine j_imul X dX11_show_59 ?_
        refine j_iload_n X 2 rfl dX11_show_60 rfl ?_
        refine j_iadd X dX11_show_61 ?_
        refine j_letE (fun x14 => ?_)
        refine j_istore X [(4, .int x14), (0, .ref (kB κ + 358)), (1, .int p1), (2, .int p2)] dX11_show_62 (by decide) rfl ?_
        refine j_aload_n X 1 rfl dX11_show_64 rfl ?_
        refine g_getf X 19 kf_358 cf_X11 (by decide) fl_X11_62 dX11_show_65 rfl rfl ?_
        refine j_iload X 0 rfl dX11_show_68 ?_
        refine g_iald X 160 kf_376 (by decide) dX11_show_70 (fun h47 => ?_)
        refine j_letE (fun x15 => ?_)
        refine j_istore X [(5, .int x15), (4, .int x14), (0, .ref (kB κ + 358)), (1, .int p1), (2, .int p2)] dX11_show_71 (by decide) rfl ?_
        refine j_aload_n X 2 rfl dX11_show_73 rfl ?_
        refine g_getf X 27 kf_358 cf_X11 (by decide) fl_X11_86 dX11_show_74 rfl rfl ?_
        refine j_iload X 1 rfl dX11_show_77 ?_
        refine g_iald X 160 kf_384 (by decide) dX11_show_79 (fun h46 => ?_)
        refine j_join (fun k16 => ∀ (x26 : Int32), J κ 9 rm_X11_show (jQf κ rm_X11_show rvI (fun S9 M9 => M9 = memG 358 387 (kD κ) (kB κ) S9 X9) z) (k16 x26) (memG 358 387 (kD κ) (kB κ) S13 X9) z 0 0 [(0, .ref (kB κ + 358)), (1, .int p1), (2, .int p2), (4, .int x14), (5, .int x15)] 102 [.int x26]) ?_ (fun k16 hk16 => ?_)
        · intro x26
          refine j_istore X [(6, .int x26), (0, .ref (kB κ + 358)), (1, .int p1), (2, .int p2), (4, .int x14), (5, .int x15)] dX11_show_102 (by decide) rfl ?_
          refine j_iload X 0 rfl dX11_show_104 ?_
          refine j_iconst X (-1 : Int32) dX11_show_106 (by rfl) ?_
          refine j_join (fun k27 => ∀ (x29 : Int32), J κ 9 rm_X11_show (jQf κ rm_X11_show rvI (fun S9 M9 => M9 = memG 358 387 (kD κ) (kB κ) S9 X9) z) (k27 x29) (memG 358 387 (kD κ) (kB κ) S13 X9) z 0 0 [(0, .ref (kB κ + 358)), (1, .int p1), (4, .int x14), (5, .int x15)] 127 [.int x29]) ?_ (fun k27 hk27 => ?_)
          · intro x29
            refine j_istore X [(7, .int x29), (0, .ref (kB κ + 358)), (1, .int p1), (4, .int x14), (5, .int x15)] dX11_show_127 (by decide) rfl ?_
            refine j_iload X 0 rfl dX11_show_129 ?_
            refine j_join (fun k30 => ∀ (S42 : jS), J κ 9 rm_X11_show (jQf κ rm_X11_show rvI (fun S9 M9 => M9 = memG 358 387 (kD κ) (kB κ) S9 X9) z) (k30 S42) (memG 358 387 (kD κ) (kB κ) S42 X9) z 0 0 [(0, .ref (kB κ + 358)), (4, .int x14), (5, .int x15)] 202 []) ?_ (fun k30 hk30 => ?_)
            · intro S42
              refine j_aload_n X 0 rfl dX11_show_202 rfl ?_
              refine g_getf X 29 kf_358 cf_X11 (by decide) fl_X11_92 dX11_show_203 rfl rfl ?_
              refine j_iload X 1 rfl dX11_show_206 ?_
              refine j_iload X 2 rfl dX11_show_208 ?_
              refine j_iconst X (1 : Int32) dX11_show_210 (by rfl) ?_
              refine j_iadd X dX11_show_211 ?_
              refine g_iast X 160 kf_386 (by decide) dX11_show_212 (fun h45 S43 => ?_)
              refine j_aload_n X 0 rfl dX11_show_213 rfl ?_
              refine j_dup X dX11_show_214 rfl ?_
              refine g_getf X 30 kf_358 cf_X11 (by decide) fl_X11_191 dX11_show_215 rfl rfl ?_
              refine j_iconst X (1 : Int32) dX11_show_218 (by rfl) ?_
              refine j_iadd X dX11_show_219 ?_
              refine g_putf X 30 kf_358 cf_X11 (by decide) fl_X11_191 dX11_show_220 rfl rfl rfl rfl (Nat.le_of_ble_eq_true rfl) rfl (fun S44 => ?_)
              refine j_iload X 2 rfl dX11_show_223 ?_
              exact j_iret X dX11_show_225 rfl (fun _ h => h)
            · refine j_if_lt X 202 dX11_show_131 (by decide) ?_ ?_
              · refine j_lv [1, 3, 4] rfl ?_
                exact hk30 S13
              · refine j_aload_n X 1 rfl dX11_show_134 rfl ?_
                refine g_getf X 25 kf_358 cf_X11 (by decide) fl_X11_80 dX11_show_135 rfl rfl ?_
                refine j_sipush X (160 : Int32) dX11_show_138 (by rfl) ?_
                refine j_iload X 0 rfl dX11_show_141 ?_
                refine j_imul X dX11_show_143 ?_
                refine j_iload X 3 rfl dX11_show_144 ?_
                refine j_iadd X dX11_show_146 ?_
                refine j_iload X 4 rfl dX11_show_147 ?_
                refine j_iconst X (1 : Int32) dX11_show_149 (by rfl) ?_
                refine j_iadd X dX11_show_150 ?_
                refine g_iast X 960 kf_382 (by decide) dX11_show_151 (fun h41 S31 => ?_)
                refine j_bipush X (20 : Int32) dX11_show_152 (by rfl) ?_
                refine j_iload X 0 rfl dX11_show_154 ?_
                refine j_imul X dX11_show_156 ?_
                refine j_iload_n X 2 rfl dX11_show_157 rfl ?_
                refine j_iadd X dX11_show_158 ?_
                refine j_letE (fun x32 => ?_)
                refine j_istore X [(8, .int x32), (7, .int x29), (0, .ref (kB κ + 358)), (1, .int p1), (4, .int x14), (5, .int x15)] dX11_show_159 (by decide) rfl ?_
                refine j_aload_n X 2 rfl dX11_show_161 rfl ?_
                refine g_getf X 24 kf_358 cf_X11 (by decide) fl_X11_77 dX11_show_162 rfl rfl ?_
                refine j_iload X 0 rfl dX11_show_165 ?_
                refine j_aload_n X 2 rfl dX11_show_167 rfl ?_
                refine g_getf X 23 kf_358 cf_X11 (by decide) fl_X11_74 dX11_show_168 rfl rfl ?_
                refine j_iload X 1 rfl dX11_show_171 ?_
                refine g_iald X 6 kf_380 (by decide) dX11_show_173 (fun h40 => ?_)
                refine j_join (fun k33 => ∀ (x37 : Int32), J κ 9 rm_X11_show (jQf κ rm_X11_show rvI (fun S9 M9 => M9 = memG 358 387 (kD κ) (kB κ) S9 X9) z) (k33 x37) (memG 358 387 (kD κ) (kB κ) S31 X9) z 0 0 [(0, .ref (kB κ + 358)), (4, .int x14), (5, .int x15)] 201 [.int x37, .int x32, .ref (kB κ + 381)]) ?_ (fun k33 hk33 => ?_)
                · intro x37
                  refine g_iast X 120 kf_381 (by decide) dX11_show_201 (fun h39 S38 => ?_)
                  exact hk30 S38
                · refine j_join (fun k34 => ∀ (_ : Unit), J κ 9 rm_X11_show (jQf κ rm_X11_show rvI (fun S9 M9 => M9 = memG 358 387 (kD κ) (kB κ) S9 X9) z) (k34 ()) (memG 358 387 (kD κ) (kB κ) S31 X9) z 0 0 [(0, .ref (kB κ + 358)), (4, .int x14), (5, .int x15), (8, .int x32)] 194 [.int x32, .ref (kB κ + 381)]) ?_ (fun k34 hk34 => ?_)
                  · intro _
                    refine j_aload_n X 0 rfl dX11_show_194 rfl ?_
                    refine g_getf X 24 kf_358 cf_X11 (by decide) fl_X11_77 dX11_show_195 rfl rfl ?_
                    refine j_iload X 3 rfl dX11_show_198 ?_
                    refine g_iald X 120 kf_381 (by decide) dX11_show_200 (fun h36 => ?_)
                    refine j_lv [0, 1, 2] rfl ?_
                    exact hk33 (S31 381 x32.toNatClampNeg)
                  · refine j_if_ne X 194 dX11_show_174 (by decide) ?_ ?_
                    · refine j_aload_n X 2 rfl dX11_show_177 rfl ?_
                      refine g_getf X 24 kf_358 cf_X11 (by decide) fl_X11_77 dX11_show_178 rfl rfl ?_
                      refine j_iload X 0 rfl dX11_show_181 ?_
                      refine g_iald X 120 kf_381 (by decide) dX11_show_183 (fun h35 => ?_)
                      refine j_if_ne X 194 dX11_show_184 (by decide) ?_ ?_
                      · refine j_iload X 5 rfl dX11_show_187 ?_
                        refine j_iconst X (1 : Int32) dX11_show_189 (by rfl) ?_
                        refine j_iadd X dX11_show_190 ?_
                        refine j_goto X 201 dX11_show_191 (by decide) ?_
                        refine j_lv [2, 4, 5] rfl ?_
                        exact hk33 ((x15 + (1 : Int32)))
                      · refine j_lv [2, 4, 5, 0] rfl ?_
                        exact hk34 ()
                    · refine j_lv [2, 4, 5, 0] rfl ?_
                      exact hk34 ()
          · refine j_icmp_ne X 114 dX11_show_107 (by decide) ?_ ?_
            · refine j_iconst X (-1 : Int32) dX11_show_110 (by rfl) ?_
              refine j_goto X 127 dX11_show_111 (by decide) ?_
              refine j_lv [1, 2, 4, 5] rfl ?_
              exact hk27 (-1 : Int32)
            · refine j_aload_n X 1 rfl dX11_show_114 rfl ?_
              refine g_getf X 17 kf_358 cf_X11 (by decide) fl_X11_56 dX11_show_115 rfl rfl ?_
              refine j_iconst X (5 : Int32) dX11_show_118 (by rfl) ?_
              refine j_iload_n X 3 rfl dX11_show_119 rfl ?_
              refine j_imul X dX11_show_120 ?_
              refine j_iload X 0 rfl dX11_show_121 ?_
              refine j_iadd X dX11_show_123 ?_
              refine g_iald X 40 kf_374 (by decide) dX11_show_124 (fun h28 => ?_)
              refine j_iconst X (4 : Int32) dX11_show_125 (by rfl) ?_
              refine j_isub X dX11_show_126 ?_
              refine j_lv [1, 2, 4, 5] rfl ?_
              exact hk27 (((S13 374 ((((5 : Int32) * p2) + x26)).toNatClampNeg) - (4 : Int32)))
        · refine j_join (fun k17 => ∀ (_ : Unit), J κ 9 rm_X11_show (jQf κ rm_X11_show rvI (fun S9 M9 => M9 = memG 358 387 (kD κ) (kB κ) S9 X9) z) (k17 ()) (memG 358 387 (kD κ) (kB κ) S13 X9) z 0 0 [(0, .ref (kB κ + 358)), (1, .int p1), (2, .int p2), (4, .int x14), (5, .int x15)] 92 []) ?_ (fun k17 hk17 => ?_)
          · intro _
            refine j_iconst X (-1 : Int32) dX11_show_92 (by rfl) ?_
            refine j_goto X 102 dX11_show_93 (by decide) ?_
            exact hk16 (-1 : Int32)
          · refine j_if_ne X 92 dX11_show_80 (by decide) ?_ ?_
            · refine j_aload_n X 2 rfl dX11_show_83 rfl ?_
              refine j_iload_n X 3 rfl dX11_show_84 rfl ?_
              refine j_iload_n X 4 rfl dX11_show_85 rfl ?_
              refine j_call0V X 0 0 (c_X11_lacksNeed X.tr S13 X9 z p1 p2) me_X11_lacksNeed ml_X11_173 iv_X11_lacksNeed cf_X11 dX11_show_86 (memG_at kf_358) (rest := []) rfl rfl (by decide) (by decide) (Nat.le_of_ble_eq_true rfl) (fun v18 u25 M24 hM23 => ?_)
              subst M24
              refine j_st (st1 := [.int v18]) rfl ?_
              refine j_if_eq X 96 dX11_show_89 (by decide) ?_ ?_
              · refine j_aload_n X 2 rfl dX11_show_96 rfl ?_
                refine j_iload_n X 3 rfl dX11_show_97 rfl ?_
                refine j_iload_n X 4 rfl dX11_show_98 rfl ?_
                refine j_call0V X 0 0 (c_X11_ruleNow X.tr S13 X9 z p1 p2) me_X11_ruleNow ml_X11_176 iv_X11_ruleNow cf_X11 dX11_show_99 (memG_at kf_358) (rest := []) rfl rfl (by decide) (by decide) (Nat.le_of_ble_eq_true rfl) (fun v19 u22 M21 hM20 => ?_)
                subst M21
                refine j_st (st1 := [.int v19]) rfl ?_
                refine j_lv [2, 3, 4, 1, 0] rfl ?_
                exact hk16 v19
              · refine j_lv [2, 3, 4, 1, 0] rfl ?_
                exact hk17 ()
            · refine j_lv [2, 3, 4, 1, 0] rfl ?_
              exact hk17 ()
    · refine j_if_ne X 29 dX11_show_22 (by decide) ?_ ?_
      · refine j_iconst X (1 : Int32) dX11_show_25 (by rfl) ?_
        refine j_goto X 44 dX11_show_26 (by decide) ?_
        refine j_lv [1, 2, 3] rfl ?_
        exact hk9 (1 : Int32)
      · refine j_aload_n X 1 rfl dX11_show_29 rfl ?_
        refine g_getf X 30 kf_358 cf_X11 (by decide) fl_X11_191 dX11_show_30 rfl rfl ?_
        refine j_sipush X (400 : Int32) dX11_show_33 (by rfl) ?_
        refine j_icmp_ne X 43 dX11_show_36 (by decide) ?_ ?_
        · refine j_iconst X (2 : Int32) dX11_show_39 (by rfl) ?_
          refine j_goto X 44 dX11_show_40 (by decide) ?_
          refine j_lv [1, 2, 3] rfl ?_
          exact hk9 (2 : Int32)
        · refine j_iconst X (0 : Int32) dX11_show_43 (by rfl) ?_
          refine j_lv [1, 2, 3] rfl ?_
          exact hk9 (0 : Int32)
  · refine j_join (fun k3 => ∀ (_ : Unit), J κ 9 rm_X11_show (jQf κ rm_X11_show rvI (fun S9 M9 => M9 = memG 358 387 (kD κ) (kB κ) S9 X9) z) (k3 ()) (memG 358 387 (kD κ) (kB κ) S X9) z 0 0 [(0, .ref (kB κ + 358)), (1, .int p1), (2, .int p2)] 18 []) ?_ (fun k3 hk3 => ?_)
    · intro _
      refine j_iconst X (0 : Int32) dX11_show_18 (by rfl) ?_
      exact hk2 (0 : Int32)
    · refine j_if_eq X 18 dX11_show_4 (by decide) ?_ ?_
      · exact hk3 ()
      · refine j_iload_n X 2 rfl dX11_show_7 rfl ?_
        refine j_call0S X 0 0 (c_X11_isFlag X.tr (memG 358 387 (kD κ) (kB κ) S X9) z p2) me_X11_isFlag ml_X11_167 st_X11_isFlag dX11_show_8 (rest := []) rfl rfl (by decide) (by decide) (Nat.le_of_ble_eq_true rfl) (fun v4 u7 M6 hM5 => ?_)
        subst M6
        refine j_st (st1 := [.int v4]) rfl ?_
        refine j_if_eq X 18 dX11_show_11 (by decide) ?_ ?_
        · exact hk3 ()
        · refine j_iconst X (1 : Int32) dX11_show_14 (by rfl) ?_
          refine j_goto X 19 dX11_show_15 (by decide) ?_
          exact hk2 (1 : Int32)
def f_X11_setShares (S : jS) (p1 : Int32) (p2 : Int32) (p3 : Int32) (p4 : Int32) (p5 : Int32) : Option (jR jS) := jbin0 (f_X11_isTrial p1) (fun v1 _ => joinK (fun (x20 : Int32) => joinK (fun (x23 : Int32) => jbin0 (f_X11_goesWell S x23) (fun v24 S25 => (if v24 = (0 : Int32) then some (0, (0 : Int32), S25) else letE (((4 : Int32) * p1)) fun x26 => chk (inb x26 24) (chk (inb ((x26 + (1 : Int32))) 24) (chk (inb ((x26 + (2 : Int32))) 24) (chk (inb ((x26 + (3 : Int32))) 24) (letE (((((S25 378 x26.toNatClampNeg) + (S25 378 ((x26 + (1 : Int32))).toNatClampNeg)) + (S25 378 ((x26 + (2 : Int32))).toNatClampNeg)) + (S25 378 ((x26 + (3 : Int32))).toNatClampNeg))) fun x27 => chk (inb x26 24) (letE (jset S25 378 x26.toNatClampNeg p2) fun S28 => chk (inb ((x26 + (1 : Int32))) 24) (letE (jset S28 378 ((x26 + (1 : Int32))).toNatClampNeg p3) fun S29 => chk (inb ((x26 + (2 : Int32))) 24) (letE (jset S29 378 ((x26 + (2 : Int32))).toNatClampNeg p4) fun S30 => chk (inb ((x26 + (3 : Int32))) 24) (letE (jset S30 378 ((x26 + (3 : Int32))).toNatClampNeg p5) fun S31 => some (0, x27, S31)))))))))))) (fun k21 => (if x20 = (0 : Int32) then k21 (1 : Int32) else chk (inb p1 6) ((if (S 383 p1.toNatClampNeg) = (0 : Int32) then k21 (0 : Int32) else k21 (2 : Int32)))))) (fun k2 => joinK (fun (_ : Unit) => k2 (0 : Int32)) (fun k3 => (if v1 = (0 : Int32) then k3 () else jbin0 (f_X11_in p2 (0 : Int32) (100 : Int32)) (fun v4 _ => (if v4 = (0 : Int32) then k3 () else jbin0 (f_X11_in p3 (0 : Int32) (100 : Int32)) (fun v5 _ => (if v5 = (0 : Int32) then k3 () else jbin0 (f_X11_in p4 (0 : Int32) (100 : Int32)) (fun v6 _ => (if v6 = (0 : Int32) then k3 () else jbin0 (f_X11_in p5 (0 : Int32) (100 : Int32)) (fun v7 _ => (if v7 = (0 : Int32) then k3 () else k2 (1 : Int32)))))))))))))
abbrev rm_X11_setShares : Room := { frames := 2, cells := 0, slots := 0, locals := 42 }
set_option maxHeartbeats 4000000 in
set_option maxRecDepth 100000 in
theorem c_X11_setShares {l : Launch} {D : va_G} {B t0 : Nat} (hl9 : l.stackTraces = false) (S : jS) (X9 : jMem) (z : Nat → Prop) (p1 : Int32) (p2 : Int32) (p3 : Int32) (p4 : Int32) (p5 : Int32) : jCf l D B t0 yX11_setShares cX11_setShares 9 (some .int) rm_X11_setShares [.ref (B + 358), .int p1, .int p2, .int p3, .int p4, .int p5] (memG 358 387 D B S X9) z (f_X11_setShares S p1 p2 p3 p4 p5) rvI (fun S9 M9 => M9 = memG 358 387 D B S9 X9) z := by
  refine jC_of hl9 (me_X11_setShares).1 [(0, .ref (B + 358)), (1, .int p1), (2, .int p2), (3, .int p3), (4, .int p4), (5, .int p5)] ⟨by decide +kernel, Nat.le_of_ble_eq_true rfl⟩ rfl (fun κ hl hD hB hT X htab hin => ?_)
  subst hl hD hB hT
  have X : jX κ RX11 cX11_setShares 9 (some .int) := X
  unfold f_X11_setShares
  refine j_iload_n X 1 rfl dX11_setShares_0 rfl ?_
  refine j_call0S X 0 0 (c_X11_isTrial X.tr (memG 358 387 (kD κ) (kB κ) S X9) z p1) me_X11_isTrial ml_X11_196 st_X11_isTrial dX11_setShares_1 (rest := []) rfl rfl (by decide) (by decide) (Nat.le_of_ble_eq_true rfl) (fun v1 u44 M43 hM42 => ?_)
  subst M43
  refine j_st (st1 := [.int v1]) rfl ?_
  refine j_join (fun k2 => ∀ (x20 : Int32), J κ 9 rm_X11_setShares (jQf κ rm_X11_setShares rvI (fun S9 M9 => M9 = memG 358 387 (kD κ) (kB κ) S9 X9) z) (k2 x20) (memG 358 387 (kD κ) (kB κ) S X9) z 0 0 [(0, .ref (kB κ + 358)), (1, .int p1), (2, .int p2), (3, .int p3), (4, .int p4), (5, .int p5)] 54 [.int x20]) ?_ (fun k2 hk2 => ?_)
  · intro x20
    refine j_istore X [(6, .int x20), (0, .ref (kB κ + 358)), (1, .int p1), (2, .int p2), (3, .int p3), (4, .int p4), (5, .int p5)] dX11_setShares_54 (by decide) rfl ?_
    refine j_aload_n X 1 rfl dX11_setShares_56 rfl ?_
    refine j_iload X 0 rfl dX11_setShares_57 ?_
    refine j_join (fun k21 => ∀ (x23 : Int32), J κ 9 rm_X11_setShares (jQf κ rm_X11_setShares rvI (fun S9 M9 => M9 = memG 358 387 (kD κ) (kB κ) S9 X9) z) (k21 x23) (memG 358 387 (kD κ) (kB κ) S X9) z 0 0 [(0, .ref (kB κ + 358)), (1, .int p1), (2, .int p2), (3, .int p3), (4, .int p4), (5, .int p5)] 80 [.int x23, .ref (kB κ + 358)]) ?_ (fun k21 hk21 => ?_)
    · intro x23
      refine j_call0V X 0 0 (c_X11_goesWell X.tr S X9 z x23) me_X11_goesWell ml_X11_107 iv_X11_goesWell cf_X11 dX11_setShares_80 (memG_at kf_358) (rest := []) rfl rfl (by decide) (by decide) (Nat.le_of_ble_eq_true rfl) (fun v24 S25 M41 hM40 => ?_)
      subst M41
      refine j_st (st1 := [.int v24]) rfl ?_
      refine j_if_ne X 88 dX11_setShares_83 (by decide) ?_ ?_
      · refine j_iconst X (0 : Int32) dX11_setShares_86 (by rfl) ?_
        exact j_iret X dX11_setShares_87 rfl (fun _ h => h)
      · refine j_iconst X (4 : Int32) dX11_setShares_88 (by rfl) ?_
        refine j_iload_n X 1 rfl dX11_setShares_89 rfl ?_
        refine j_imul X dX11_setShares_90 ?_
        refine j_letE (fun x26 => ?_)
        refine j_istore X [(7, .int x26), (0, .ref (kB κ + 358)), (1, .int p1), (2, .int p2), (3, .int p3), (4, .int p4), (5, .int p5)] dX11_setShares_91 (by decide) rfl ?_
        refine j_aload_n X 1 rfl dX11_setShares_93 rfl ?_
        refine g_getf X 21 kf_358 cf_X11 (by decide) fl_X11_68 dX11_setShares_94 rfl rfl ?_
        refine j_iload X 0 rfl dX11_setShares_97 ?_
        refine g_iald X 24 kf_378 (by decide) dX11_setShares_99 (fun h39 => ?_)
        refine j_aload_n X 1 rfl dX11_setShares_100 rfl ?_
        refine g_getf X 21 kf_358 cf_X11 (by decide) fl_X11_68 dX11_setShares_101 rfl rfl ?_
        refine j_iload X 0 rfl dX11_setShares_104 ?_
        refine j_iconst X (1 : Int32) dX11_setShares_106 (by rfl) ?_
        refine j_iadd X dX11_setShares_107 ?_
        refine g_iald X 24 kf_378 (by decide) dX11_setShares_108 (fun h38 => ?_)
        refine j_iadd X dX11_setShares_109 ?_
        refine j_aload_n X 1 rfl dX11_setShares_110 rfl ?_
        refine g_getf X 21 kf_358 cf_X11 (by decide) fl_X11_68 dX11_setShares_111 rfl rfl ?_
        refine j_iload X 0 rfl dX11_setShares_114 ?_
        refine j_iconst X (2 : Int32) dX11_setShares_116 (by rfl) ?_
        refine j_iadd X dX11_setShares_117 ?_
        refine g_iald X 24 kf_378 (by decide) dX11_setShares_118 (fun h37 => ?_)
        refine j_iadd X dX11_setShares_119 ?_
        refine j_aload_n X 1 rfl dX11_setShares_120 rfl ?_
        refine g_getf X 21 kf_358 cf_X11 (by decide) fl_X11_68 dX11_setShares_121 rfl rfl ?_
        refine j_iload X 0 rfl dX11_setShares_124 ?_
        refine j_iconst X (3 : Int32) dX11_setShares_126 (by rfl) ?_
        refine j_iadd X dX11_setShares_127 ?_
        refine g_iald X 24 kf_378 (by decide) dX11_setShares_128 (fun h36 => ?_)
        refine j_iadd X dX11_setShares_129 ?_
        refine j_letE (fun x27 => ?_)
        refine j_istore X [(8, .int x27), (7, .int x26), (0, .ref (kB κ + 358)), (1, .int p1), (2, .int p2), (3, .int p3), (4, .int p4), (5, .int p5)] dX11_setShares_130 (by decide) rfl ?_
        refine j_aload_n X 2 rfl dX11_setShares_132 rfl ?_
        refine g_getf X 21 kf_358 cf_X11 (by decide) fl_X11_68 dX11_setShares_133 rfl rfl ?_
        refine j_iload X 1 rfl dX11_setShares_136 ?_
        refine j_iload_n X 4 rfl dX11_setShares_138 rfl ?_
        refine g_iast X 24 kf_378 (by decide) dX11_setShares_139 (fun h35 S28 => ?_)
        refine j_aload_n X 2 rfl dX11_setShares_140 rfl ?_
        refine g_getf X 21 kf_358 cf_X11 (by decide) fl_X11_68 dX11_setShares_141 rfl rfl ?_
        refine j_iload X 1 rfl dX11_setShares_144 ?_
        refine j_iconst X (1 : Int32) dX11_setShares_146 (by rfl) ?_
        refine j_iadd X dX11_setShares_147 ?_
        refine j_iload_n X 5 rfl dX11_setShares_148 rfl ?_
        refine g_iast X 24 kf_378 (by decide) dX11_setShares_149 (fun h34 S29 => ?_)
        refine j_aload_n X 2 rfl dX11_setShares_150 rfl ?_
        refine g_getf X 21 kf_358 cf_X11 (by decide) fl_X11_68 dX11_setShares_151 rfl rfl ?_
        refine j_iload X 1 rfl dX11_setShares_154 ?_
        refine j_iconst X (2 : Int32) dX11_setShares_156 (by rfl) ?_
        refine j_iadd X dX11_setShares_157 ?_
        refine j_iload X 6 rfl dX11_setShares_158 ?_
        refine g_iast X 24 kf_378 (by decide) dX11_setShares_160 (fun h33 S30 => ?_)
        refine j_aload_n X 2 rfl dX11_setShares_161 rfl ?_
        refine g_getf X 21 kf_358 cf_X11 (by decide) fl_X11_68 dX11_setShares_162 rfl rfl ?_
        refine j_iload X 1 rfl dX11_setShares_165 ?_
        refine j_iconst X (3 : Int32) dX11_setShares_167 (by rfl) ?_
        refine j_iadd X dX11_setShares_168 ?_
        refine j_iload X 7 rfl dX11_setShares_169 ?_
        refine g_iast X 24 kf_378 (by decide) dX11_setShares_171 (fun h32 S31 => ?_)
        refine j_iload X 0 rfl dX11_setShares_172 ?_
        exact j_iret X dX11_setShares_174 rfl (fun _ h => h)
    · refine j_if_ne X 66 dX11_setShares_59 (by decide) ?_ ?_
      · refine j_iconst X (1 : Int32) dX11_setShares_62 (by rfl) ?_
        refine j_goto X 80 dX11_setShares_63 (by decide) ?_
        refine j_lv [1, 2, 3, 4, 5, 6] rfl ?_
        exact hk21 (1 : Int32)
      · refine j_aload_n X 1 rfl dX11_setShares_66 rfl ?_
        refine g_getf X 26 kf_358 cf_X11 (by decide) fl_X11_83 dX11_setShares_67 rfl rfl ?_
        refine j_iload_n X 2 rfl dX11_setShares_70 rfl ?_
        refine g_zald X 6 kf_383 (by decide) dX11_setShares_71 (fun h22 => ?_)
        refine j_if_eq X 79 dX11_setShares_72 (by decide) ?_ ?_
        · refine j_iconst X (0 : Int32) dX11_setShares_79 (by rfl) ?_
          refine j_lv [1, 2, 3, 4, 5, 6] rfl ?_
          exact hk21 (0 : Int32)
        · refine j_iconst X (2 : Int32) dX11_setShares_75 (by rfl) ?_
          refine j_goto X 80 dX11_setShares_76 (by decide) ?_
          refine j_lv [1, 2, 3, 4, 5, 6] rfl ?_
          exact hk21 (2 : Int32)
  · refine j_join (fun k3 => ∀ (_ : Unit), J κ 9 rm_X11_setShares (jQf κ rm_X11_setShares rvI (fun S9 M9 => M9 = memG 358 387 (kD κ) (kB κ) S9 X9) z) (k3 ()) (memG 358 387 (kD κ) (kB κ) S X9) z 0 0 [(0, .ref (kB κ + 358)), (1, .int p1), (2, .int p2), (3, .int p3), (4, .int p4), (5, .int p5)] 53 []) ?_ (fun k3 hk3 => ?_)
    · intro _
      refine j_iconst X (0 : Int32) dX11_setShares_53 (by rfl) ?_
      exact hk2 (0 : Int32)
    · refine j_if_eq X 53 dX11_setShares_4 (by decide) ?_ ?_
      · exact hk3 ()
      · refine j_iload_n X 2 rfl dX11_setShares_7 rfl ?_
        refine j_iconst X (0 : Int32) dX11_setShares_8 (by rfl) ?_
        refine j_bipush X (100 : Int32) dX11_setShares_9 (by rfl) ?_
        refine j_call0S X 0 0 (c_X11_in X.tr (memG 358 387 (kD κ) (kB κ) S X9) z p2 (0 : Int32) (100 : Int32)) me_X11_in ml_X11_99 st_X11_in dX11_setShares_11 (rest := []) rfl rfl (by decide) (by decide) (Nat.le_of_ble_eq_true rfl) (fun v4 u19 M18 hM17 => ?_)
        subst M18
        refine j_st (st1 := [.int v4]) rfl ?_
        refine j_if_eq X 53 dX11_setShares_14 (by decide) ?_ ?_
        · exact hk3 ()
        · refine j_iload_n X 3 rfl dX11_setShares_17 rfl ?_
          refine j_iconst X (0 : Int32) dX11_setShares_18 (by rfl) ?_
          refine j_bipush X (100 : Int32) dX11_setShares_19 (by rfl) ?_
          refine j_call0S X 0 0 (c_X11_in X.tr (memG 358 387 (kD κ) (kB κ) S X9) z p3 (0 : Int32) (100 : Int32)) me_X11_in ml_X11_99 st_X11_in dX11_setShares_21 (rest := []) rfl rfl (by decide) (by decide) (Nat.le_of_ble_eq_true rfl) (fun v5 u16 M15 hM14 => ?_)
          subst M15
          refine j_st (st1 := [.int v5]) rfl ?_
          refine j_if_eq X 53 dX11_setShares_24 (by decide) ?_ ?_
          · exact hk3 ()
          · refine j_iload X 4 rfl dX11_setShares_27 ?_
            refine j_iconst X (0 : Int32) dX11_setShares_29 (by rfl) ?_
            refine j_bipush X (100 : Int32) dX11_setShares_30 (by rfl) ?_
            refine j_call0S X 0 0 (c_X11_in X.tr (memG 358 387 (kD κ) (kB κ) S X9) z p4 (0 : Int32) (100 : Int32)) me_X11_in ml_X11_99 st_X11_in dX11_setShares_32 (rest := []) rfl rfl (by decide) (by decide) (Nat.le_of_ble_eq_true rfl) (fun v6 u13 M12 hM11 => ?_)
            subst M12
            refine j_st (st1 := [.int v6]) rfl ?_
            refine j_if_eq X 53 dX11_setShares_35 (by decide) ?_ ?_
            · exact hk3 ()
            · refine j_iload X 5 rfl dX11_setShares_38 ?_
              refine j_iconst X (0 : Int32) dX11_setShares_40 (by rfl) ?_
              refine j_bipush X (100 : Int32) dX11_setShares_41 (by rfl) ?_
              refine j_call0S X 0 0 (c_X11_in X.tr (memG 358 387 (kD κ) (kB κ) S X9) z p5 (0 : Int32) (100 : Int32)) me_X11_in ml_X11_99 st_X11_in dX11_setShares_43 (rest := []) rfl rfl (by decide) (by decide) (Nat.le_of_ble_eq_true rfl) (fun v7 u10 M9 hM8 => ?_)
              subst M9
              refine j_st (st1 := [.int v7]) rfl ?_
              refine j_if_eq X 53 dX11_setShares_46 (by decide) ?_ ?_
              · exact hk3 ()
              · refine j_iconst X (1 : Int32) dX11_setShares_49 (by rfl) ?_
                refine j_goto X 54 dX11_setShares_50 (by decide) ?_
                exact hk2 (1 : Int32)
def f_X11_setSalt (S : jS) (p1 : Int32) (p2 : Int32) : Option (jR jS) := jbin0 (f_X11_isTrial p1) (fun v1 _ => joinK (fun (x8 : Int32) => joinK (fun (x11 : Int32) => jbin0 (f_X11_goesWell S x11) (fun v12 S13 => (if v12 = (0 : Int32) then some (0, (0 : Int32), S13) else chk (inb p1 6) (letE (S13 379 p1.toNatClampNeg) fun x14 => chk (inb p1 6) (letE (jset S13 379 p1.toNatClampNeg p2) fun S15 => some (0, x14, S15)))))) (fun k9 => (if x8 = (0 : Int32) then k9 (1 : Int32) else chk (inb p1 6) ((if (S 383 p1.toNatClampNeg) = (0 : Int32) then k9 (0 : Int32) else k9 (2 : Int32)))))) (fun k2 => joinK (fun (_ : Unit) => k2 (0 : Int32)) (fun k3 => (if v1 = (0 : Int32) then k3 () else jbin0 (f_X11_in p2 (0 : Int32) (1000 : Int32)) (fun v4 _ => (if v4 = (0 : Int32) then k3 () else k2 (1 : Int32)))))))
abbrev rm_X11_setSalt : Room := { frames := 2, cells := 0, slots := 0, locals := 42 }
set_option maxHeartbeats 4000000 in
set_option maxRecDepth 100000 in
theorem c_X11_setSalt {l : Launch} {D : va_G} {B t0 : Nat} (hl9 : l.stackTraces = false) (S : jS) (X9 : jMem) (z : Nat → Prop) (p1 : Int32) (p2 : Int32) : jCf l D B t0 yX11_setSalt cX11_setSalt 5 (some .int) rm_X11_setSalt [.ref (B + 358), .int p1, .int p2] (memG 358 387 D B S X9) z (f_X11_setSalt S p1 p2) rvI (fun S9 M9 => M9 = memG 358 387 D B S9 X9) z := by
  refine jC_of hl9 (me_X11_setSalt).1 [(0, .ref (B + 358)), (1, .int p1), (2, .int p2)] ⟨by decide +kernel, Nat.le_of_ble_eq_true rfl⟩ rfl (fun κ hl hD hB hT X htab hin => ?_)
  subst hl hD hB hT
  have X : jX κ RX11 cX11_setSalt 5 (some .int) := X
  unfold f_X11_setSalt
  refine j_iload_n X 1 rfl dX11_setSalt_0 rfl ?_
  refine j_call0S X 0 0 (c_X11_isTrial X.tr (memG 358 387 (kD κ) (kB κ) S X9) z p1) me_X11_isTrial ml_X11_196 st_X11_isTrial dX11_setSalt_1 (rest := []) rfl rfl (by decide) (by decide) (Nat.le_of_ble_eq_true rfl) (fun v1 u22 M21 hM20 => ?_)
  subst M21
  refine j_st (st1 := [.int v1]) rfl ?_
  refine j_join (fun k2 => ∀ (x8 : Int32), J κ 5 rm_X11_setSalt (jQf κ rm_X11_setSalt rvI (fun S9 M9 => M9 = memG 358 387 (kD κ) (kB κ) S9 X9) z) (k2 x8) (memG 358 387 (kD κ) (kB κ) S X9) z 0 0 [(0, .ref (kB κ + 358)), (1, .int p1), (2, .int p2)] 23 [.int x8]) ?_ (fun k2 hk2 => ?_)
  · intro x8
    refine j_istore_n X [(3, .int x8), (0, .ref (kB κ + 358)), (1, .int p1), (2, .int p2)] dX11_setSalt_23 rfl (by decide) rfl ?_
    refine j_aload_n X 1 rfl dX11_setSalt_24 rfl ?_
    refine j_iload_n X 0 rfl dX11_setSalt_25 rfl ?_
    refine j_join (fun k9 => ∀ (x11 : Int32), J κ 5 rm_X11_setSalt (jQf κ rm_X11_setSalt rvI (fun S9 M9 => M9 = memG 358 387 (kD κ) (kB κ) S9 X9) z) (k9 x11) (memG 358 387 (kD κ) (kB κ) S X9) z 0 0 [(0, .ref (kB κ + 358)), (1, .int p1), (2, .int p2)] 47 [.int x11, .ref (kB κ + 358)]) ?_ (fun k9 hk9 => ?_)
    · intro x11
      refine j_call0V X 0 0 (c_X11_goesWell X.tr S X9 z x11) me_X11_goesWell ml_X11_107 iv_X11_goesWell cf_X11 dX11_setSalt_47 (memG_at kf_358) (rest := []) rfl rfl (by decide) (by decide) (Nat.le_of_ble_eq_true rfl) (fun v12 S13 M19 hM18 => ?_)
      subst M19
      refine j_st (st1 := [.int v12]) rfl ?_
      refine j_if_ne X 55 dX11_setSalt_50 (by decide) ?_ ?_
      · refine j_iconst X (0 : Int32) dX11_setSalt_53 (by rfl) ?_
        exact j_iret X dX11_setSalt_54 rfl (fun _ h => h)
      · refine j_aload_n X 0 rfl dX11_setSalt_55 rfl ?_
        refine g_getf X 22 kf_358 cf_X11 (by decide) fl_X11_71 dX11_setSalt_56 rfl rfl ?_
        refine j_iload_n X 1 rfl dX11_setSalt_59 rfl ?_
        refine g_iald X 6 kf_379 (by decide) dX11_setSalt_60 (fun h17 => ?_)
        refine j_letE (fun x14 => ?_)
        refine j_istore X [(4, .int x14), (0, .ref (kB κ + 358)), (1, .int p1), (2, .int p2)] dX11_setSalt_61 (by decide) rfl ?_
        refine j_aload_n X 1 rfl dX11_setSalt_63 rfl ?_
        refine g_getf X 22 kf_358 cf_X11 (by decide) fl_X11_71 dX11_setSalt_64 rfl rfl ?_
        refine j_iload_n X 2 rfl dX11_setSalt_67 rfl ?_
        refine j_iload_n X 3 rfl dX11_setSalt_68 rfl ?_
        refine g_iast X 6 kf_379 (by decide) dX11_setSalt_69 (fun h16 S15 => ?_)
        refine j_iload X 0 rfl dX11_setSalt_70 ?_
        exact j_iret X dX11_setSalt_72 rfl (fun _ h => h)
    · refine j_if_ne X 33 dX11_setSalt_26 (by decide) ?_ ?_
      · refine j_iconst X (1 : Int32) dX11_setSalt_29 (by rfl) ?_
        refine j_goto X 47 dX11_setSalt_30 (by decide) ?_
        refine j_lv [1, 2, 3] rfl ?_
        exact hk9 (1 : Int32)
      · refine j_aload_n X 1 rfl dX11_setSalt_33 rfl ?_
        refine g_getf X 26 kf_358 cf_X11 (by decide) fl_X11_83 dX11_setSalt_34 rfl rfl ?_
        refine j_iload_n X 2 rfl dX11_setSalt_37 rfl ?_
        refine g_zald X 6 kf_383 (by decide) dX11_setSalt_38 (fun h10 => ?_)
        refine j_if_eq X 46 dX11_setSalt_39 (by decide) ?_ ?_
        · refine j_iconst X (0 : Int32) dX11_setSalt_46 (by rfl) ?_
          refine j_lv [1, 2, 3] rfl ?_
          exact hk9 (0 : Int32)
        · refine j_iconst X (2 : Int32) dX11_setSalt_42 (by rfl) ?_
          refine j_goto X 47 dX11_setSalt_43 (by decide) ?_
          refine j_lv [1, 2, 3] rfl ?_
          exact hk9 (2 : Int32)
  · refine j_join (fun k3 => ∀ (_ : Unit), J κ 5 rm_X11_setSalt (jQf κ rm_X11_setSalt rvI (fun S9 M9 => M9 = memG 358 387 (kD κ) (kB κ) S9 X9) z) (k3 ()) (memG 358 387 (kD κ) (kB κ) S X9) z 0 0 [(0, .ref (kB κ + 358)), (1, .int p1), (2, .int p2)] 22 []) ?_ (fun k3 hk3 => ?_)
    · intro _
      refine j_iconst X (0 : Int32) dX11_setSalt_22 (by rfl) ?_
      exact hk2 (0 : Int32)
    · refine j_if_eq X 22 dX11_setSalt_4 (by decide) ?_ ?_
      · exact hk3 ()
      · refine j_iload_n X 2 rfl dX11_setSalt_7 rfl ?_
        refine j_iconst X (0 : Int32) dX11_setSalt_8 (by rfl) ?_
        refine j_sipush X (1000 : Int32) dX11_setSalt_9 (by rfl) ?_
        refine j_call0S X 0 0 (c_X11_in X.tr (memG 358 387 (kD κ) (kB κ) S X9) z p2 (0 : Int32) (1000 : Int32)) me_X11_in ml_X11_99 st_X11_in dX11_setSalt_12 (rest := []) rfl rfl (by decide) (by decide) (Nat.le_of_ble_eq_true rfl) (fun v4 u7 M6 hM5 => ?_)
        subst M6
        refine j_st (st1 := [.int v4]) rfl ?_
        refine j_if_eq X 22 dX11_setSalt_15 (by decide) ?_ ?_
        · exact hk3 ()
        · refine j_iconst X (1 : Int32) dX11_setSalt_18 (by rfl) ?_
          refine j_goto X 23 dX11_setSalt_19 (by decide) ?_
          exact hk2 (1 : Int32)
def f_X11_stop (S : jS) (p1 : Int32) (p2 : Int32) : Option (jR jS) := jbin0 (f_X11_isTrial p1) (fun v1 _ => joinK (fun (x8 : Int32) => joinK (fun (x11 : Int32) => jbin0 (f_X11_goesWell S x11) (fun v12 S13 => (if v12 = (0 : Int32) then some (0, (0 : Int32), S13) else loopK (fun (rec14 : Int32 → Int32 → Option (jR jS)) (x15 : Int32) (x16 : Int32) => (if (20 : Int32) ≤ x16 then chk (inb p1 6) (letE (jset S13 380 p1.toNatClampNeg ((p2 + (1 : Int32)))) fun S17 => some (0, x15, S17)) else jbin0 (f_X11_armNow S13 p1 x16) (fun v19 _ => joinK (fun (x21 : Int32) => letE (x15 + x21) fun x22 => letE (x16 + (1 : Int32)) fun x23 => rec14 x22 x23) (fun k20 => (if v19 = p2 then k20 (0 : Int32) else k20 (1 : Int32)))))) (fun _ _ => none) 1000 (0 : Int32) (0 : Int32)))) (fun k9 => (if x8 = (0 : Int32) then k9 (1 : Int32) else chk (inb p1 6) ((if (S 383 p1.toNatClampNeg) = (0 : Int32) then k9 (0 : Int32) else k9 (2 : Int32)))))) (fun k2 => joinK (fun (_ : Unit) => k2 (0 : Int32)) (fun k3 => (if v1 = (0 : Int32) then k3 () else jbin0 (f_X11_isVariant p2) (fun v4 _ => (if v4 = (0 : Int32) then k3 () else k2 (1 : Int32)))))))
abbrev rm_X11_stop : Room := { frames := 2, cells := 0, slots := 0, locals := 42 }
set_option maxHeartbeats 4000000 in
set_option maxRecDepth 100000 in
theorem c_X11_stop {l : Launch} {D : va_G} {B t0 : Nat} (hl9 : l.stackTraces = false) (S : jS) (X9 : jMem) (z : Nat → Prop) (p1 : Int32) (p2 : Int32) : jCf l D B t0 yX11_stop cX11_stop 6 (some .int) rm_X11_stop [.ref (B + 358), .int p1, .int p2] (memG 358 387 D B S X9) z (f_X11_stop S p1 p2) rvI (fun S9 M9 => M9 = memG 358 387 D B S9 X9) z := by
  refine jC_of hl9 (me_X11_stop).1 [(0, .ref (B + 358)), (1, .int p1), (2, .int p2)] ⟨by decide +kernel, Nat.le_of_ble_eq_true rfl⟩ rfl (fun κ hl hD hB hT X htab hin => ?_)
  subst hl hD hB hT
  have X : jX κ RX11 cX11_stop 6 (some .int) := X
  unfold f_X11_stop
  refine j_iload_n X 1 rfl dX11_stop_0 rfl ?_
  refine j_call0S X 0 0 (c_X11_isTrial X.tr (memG 358 387 (kD κ) (kB κ) S X9) z p1) me_X11_isTrial ml_X11_196 st_X11_isTrial dX11_stop_1 (rest := []) rfl rfl (by decide) (by decide) (Nat.le_of_ble_eq_true rfl) (fun v1 u31 M30 hM29 => ?_)
  subst M30
  refine j_st (st1 := [.int v1]) rfl ?_
  refine j_join (fun k2 => ∀ (x8 : Int32), J κ 6 rm_X11_stop (jQf κ rm_X11_stop rvI (fun S9 M9 => M9 = memG 358 387 (kD κ) (kB κ) S9 X9) z) (k2 x8) (memG 358 387 (kD κ) (kB κ) S X9) z 0 0 [(0, .ref (kB κ + 358)), (1, .int p1), (2, .int p2)] 19 [.int x8]) ?_ (fun k2 hk2 => ?_)
  · intro x8
    refine j_istore_n X [(3, .int x8), (0, .ref (kB κ + 358)), (1, .int p1), (2, .int p2)] dX11_stop_19 rfl (by decide) rfl ?_
    refine j_aload_n X 1 rfl dX11_stop_20 rfl ?_
    refine j_iload_n X 0 rfl dX11_stop_21 rfl ?_
    refine j_join (fun k9 => ∀ (x11 : Int32), J κ 6 rm_X11_stop (jQf κ rm_X11_stop rvI (fun S9 M9 => M9 = memG 358 387 (kD κ) (kB κ) S9 X9) z) (k9 x11) (memG 358 387 (kD κ) (kB κ) S X9) z 0 0 [(0, .ref (kB κ + 358)), (1, .int p1), (2, .int p2)] 43 [.int x11, .ref (kB κ + 358)]) ?_ (fun k9 hk9 => ?_)
    · intro x11
      refine j_call0V X 0 0 (c_X11_goesWell X.tr S X9 z x11) me_X11_goesWell ml_X11_107 iv_X11_goesWell cf_X11 dX11_stop_43 (memG_at kf_358) (rest := []) rfl rfl (by decide) (by decide) (Nat.le_of_ble_eq_true rfl) (fun v12 S13 M28 hM27 => ?_)
      subst M28
      refine j_st (st1 := [.int v12]) rfl ?_
      refine j_if_ne X 51 dX11_stop_46 (by decide) ?_ ?_
      · refine j_iconst X (0 : Int32) dX11_stop_49 (by rfl) ?_
        exact j_iret X dX11_stop_50 rfl (fun _ h => h)
      · refine j_iconst X (0 : Int32) dX11_stop_51 (by rfl) ?_
        refine j_istore X [(4, .int (0 : Int32)), (0, .ref (kB κ + 358)), (1, .int p1), (2, .int p2)] dX11_stop_52 (by decide) rfl ?_
        refine j_iconst X (0 : Int32) dX11_stop_54 (by rfl) ?_
        refine j_istore X [(5, .int (0 : Int32)), (4, .int (0 : Int32)), (0, .ref (kB κ + 358)), (1, .int p1), (2, .int p2)] dX11_stop_55 (by decide) rfl ?_
        refine j_lv [2, 3, 4, 1, 0] rfl ?_
        refine j_loop (fun (k : Int32 → Int32 → Option (jR jS)) => ∀ (x15 : Int32) (x16 : Int32), J κ 6 rm_X11_stop (jQf κ rm_X11_stop rvI (fun S9 M9 => M9 = memG 358 387 (kD κ) (kB κ) S9 X9) z) (k x15 x16) (memG 358 387 (kD κ) (kB κ) S13 X9) z 0 0 [(0, .ref (kB κ + 358)), (1, .int p1), (2, .int p2), (4, .int x15), (5, .int x16)] 57 []) (fun _ _ => j_none) (fun rec14 hrec14 => ?_) 1000 _ _
        intro x15 x16
        refine j_iload X 4 rfl dX11_stop_57 ?_
        refine j_bipush X (20 : Int32) dX11_stop_59 (by rfl) ?_
        refine j_icmp_ge X 91 dX11_stop_61 (by decide) ?_ ?_
        · refine j_aload_n X 0 rfl dX11_stop_91 rfl ?_
          refine g_getf X 23 kf_358 cf_X11 (by decide) fl_X11_74 dX11_stop_92 rfl rfl ?_
          refine j_iload_n X 1 rfl dX11_stop_95 rfl ?_
          refine j_iload_n X 2 rfl dX11_stop_96 rfl ?_
          refine j_iconst X (1 : Int32) dX11_stop_97 (by rfl) ?_
          refine j_iadd X dX11_stop_98 ?_
          refine g_iast X 6 kf_380 (by decide) dX11_stop_99 (fun h18 S17 => ?_)
          refine j_iload X 3 rfl dX11_stop_100 ?_
          exact j_iret X dX11_stop_102 rfl (fun _ h => h)
        · refine j_iload X 3 rfl dX11_stop_64 ?_
          refine j_aload_n X 0 rfl dX11_stop_66 rfl ?_
          refine j_iload_n X 1 rfl dX11_stop_67 rfl ?_
          refine j_iload X 4 rfl dX11_stop_68 ?_
          refine j_call0V X 0 0 (c_X11_armNow X.tr S13 X9 z p1 x16) me_X11_armNow ml_X11_179 iv_X11_armNow cf_X11 dX11_stop_70 (memG_at kf_358) (rest := [.int x15]) rfl rfl (by decide) (by decide) (Nat.le_of_ble_eq_true rfl) (fun v19 u26 M25 hM24 => ?_)
          subst M25
          refine j_st (st1 := [.int v19, .int x15]) rfl ?_
          refine j_iload_n X 2 rfl dX11_stop_73 rfl ?_
          refine j_join (fun k20 => ∀ (x21 : Int32), J κ 6 rm_X11_stop (jQf κ rm_X11_stop rvI (fun S9 M9 => M9 = memG 358 387 (kD κ) (kB κ) S9 X9) z) (k20 x21) (memG 358 387 (kD κ) (kB κ) S13 X9) z 0 0 [(0, .ref (kB κ + 358)), (1, .int p1), (2, .int p2), (5, .int x16)] 82 [.int x21, .int x15]) ?_ (fun k20 hk20 => ?_)
          · intro x21
            refine j_iadd X dX11_stop_82 ?_
            refine j_letE (fun x22 => ?_)
            refine j_istore X [(4, .int x22), (0, .ref (kB κ + 358)), (1, .int p1), (2, .int p2), (5, .int x16)] dX11_stop_83 (by decide) rfl ?_
            refine j_iincL X 4 (fun x23 => [(5, .int x23), (4, .int x22), (0, .ref (kB κ + 358)), (1, .int p1), (2, .int p2)]) dX11_stop_85 rfl (by rfl) (by decide) (fun _ => rfl) (fun x23 => ?_)
            refine j_goto X 57 dX11_stop_88 (by decide) ?_
            refine j_lv [2, 3, 4, 1, 0] rfl ?_
            exact hrec14 x22 x23
          · refine j_icmp_ne X 81 dX11_stop_74 (by decide) ?_ ?_
            · refine j_iconst X (0 : Int32) dX11_stop_77 (by rfl) ?_
              refine j_goto X 82 dX11_stop_78 (by decide) ?_
              refine j_lv [0, 1, 2, 4] rfl ?_
              exact hk20 (0 : Int32)
            · refine j_iconst X (1 : Int32) dX11_stop_81 (by rfl) ?_
              refine j_lv [0, 1, 2, 4] rfl ?_
              exact hk20 (1 : Int32)
    · refine j_if_ne X 29 dX11_stop_22 (by decide) ?_ ?_
      · refine j_iconst X (1 : Int32) dX11_stop_25 (by rfl) ?_
        refine j_goto X 43 dX11_stop_26 (by decide) ?_
        refine j_lv [1, 2, 3] rfl ?_
        exact hk9 (1 : Int32)
      · refine j_aload_n X 1 rfl dX11_stop_29 rfl ?_
        refine g_getf X 26 kf_358 cf_X11 (by decide) fl_X11_83 dX11_stop_30 rfl rfl ?_
        refine j_iload_n X 2 rfl dX11_stop_33 rfl ?_
        refine g_zald X 6 kf_383 (by decide) dX11_stop_34 (fun h10 => ?_)
        refine j_if_eq X 42 dX11_stop_35 (by decide) ?_ ?_
        · refine j_iconst X (0 : Int32) dX11_stop_42 (by rfl) ?_
          refine j_lv [1, 2, 3] rfl ?_
          exact hk9 (0 : Int32)
        · refine j_iconst X (2 : Int32) dX11_stop_38 (by rfl) ?_
          refine j_goto X 43 dX11_stop_39 (by decide) ?_
          refine j_lv [1, 2, 3] rfl ?_
          exact hk9 (2 : Int32)
  · refine j_join (fun k3 => ∀ (_ : Unit), J κ 6 rm_X11_stop (jQf κ rm_X11_stop rvI (fun S9 M9 => M9 = memG 358 387 (kD κ) (kB κ) S9 X9) z) (k3 ()) (memG 358 387 (kD κ) (kB κ) S X9) z 0 0 [(0, .ref (kB κ + 358)), (1, .int p1), (2, .int p2)] 18 []) ?_ (fun k3 hk3 => ?_)
    · intro _
      refine j_iconst X (0 : Int32) dX11_stop_18 (by rfl) ?_
      exact hk2 (0 : Int32)
    · refine j_if_eq X 18 dX11_stop_4 (by decide) ?_ ?_
      · exact hk3 ()
      · refine j_iload_n X 2 rfl dX11_stop_7 rfl ?_
        refine j_call0S X 0 0 (c_X11_isVariant X.tr (memG 358 387 (kD κ) (kB κ) S X9) z p2) me_X11_isVariant ml_X11_188 st_X11_isVariant dX11_stop_8 (rest := []) rfl rfl (by decide) (by decide) (Nat.le_of_ble_eq_true rfl) (fun v4 u7 M6 hM5 => ?_)
        subst M6
        refine j_st (st1 := [.int v4]) rfl ?_
        refine j_if_eq X 18 dX11_stop_11 (by decide) ?_ ?_
        · exact hk3 ()
        · refine j_iconst X (1 : Int32) dX11_stop_14 (by rfl) ?_
          refine j_goto X 19 dX11_stop_15 (by decide) ?_
          exact hk2 (1 : Int32)
def f_X11_beginAnew (S : jS) (p1 : Int32) : Option (jR jS) := jbin0 (f_X11_isTrial p1) (fun v1 _ => joinK (fun (x5 : Int32) => jbin0 (f_X11_goesWell S x5) (fun v6 S7 => (if v6 = (0 : Int32) then some (0, (0 : Int32), S7) else loopK (fun (rec8 : jS → Int32 → Int32 → Option (jR jS)) (S9 : jS) (x10 : Int32) (x11 : Int32) => (if (20 : Int32) ≤ x11 then loopK (fun (rec12 : jS → Int32 → Option (jR jS)) (S13 : jS) (x14 : Int32) => (if (160 : Int32) ≤ x14 then chk (inb p1 6) (letE (jset S13 380 p1.toNatClampNeg (0 : Int32)) fun S15 => letE (jset S15 358 30 (((S15 358 30) + (1 : Int32)))) fun S16 => some (0, x10, S16)) else chk (inb ((((160 : Int32) * p1) + x14)) 960) (letE (jset S13 382 ((((160 : Int32) * p1) + x14)).toNatClampNeg (0 : Int32)) fun S18 => letE (x14 + (1 : Int32)) fun x19 => rec12 S18 x19))) (fun _ _ => none) 1000 S9 (0 : Int32) else chk (inb ((((20 : Int32) * p1) + x11)) 120) (joinK (fun (x22 : Int32) => letE (x10 + x22) fun x23 => chk (inb ((((20 : Int32) * p1) + x11)) 120) (letE (jset S9 381 ((((20 : Int32) * p1) + x11)).toNatClampNeg (0 : Int32)) fun S24 => letE (x11 + (1 : Int32)) fun x25 => rec8 S24 x23 x25)) (fun k21 => (if (S9 381 ((((20 : Int32) * p1) + x11)).toNatClampNeg) ≤ (0 : Int32) then k21 (0 : Int32) else k21 (1 : Int32)))))) (fun _ _ _ => none) 1000 S7 (0 : Int32) (0 : Int32)))) (fun k2 => (if v1 = (0 : Int32) then k2 (1 : Int32) else chk (inb p1 6) (joinK (fun (_ : Unit) => k2 (2 : Int32)) (fun k3 => (if (S 383 p1.toNatClampNeg) = (0 : Int32) then (if (S 358 30) = (400 : Int32) then k3 () else k2 (0 : Int32)) else k3 ()))))))
abbrev rm_X11_beginAnew : Room := { frames := 2, cells := 0, slots := 0, locals := 42 }
set_option maxHeartbeats 4000000 in
set_option maxRecDepth 100000 in
theorem c_X11_beginAnew {l : Launch} {D : va_G} {B t0 : Nat} (hl9 : l.stackTraces = false) (S : jS) (X9 : jMem) (z : Nat → Prop) (p1 : Int32) : jCf l D B t0 yX11_beginAnew cX11_beginAnew 5 (some .int) rm_X11_beginAnew [.ref (B + 358), .int p1] (memG 358 387 D B S X9) z (f_X11_beginAnew S p1) rvI (fun S9 M9 => M9 = memG 358 387 D B S9 X9) z := by
  refine jC_of hl9 (me_X11_beginAnew).1 [(0, .ref (B + 358)), (1, .int p1)] ⟨by decide +kernel, Nat.le_of_ble_eq_true rfl⟩ rfl (fun κ hl hD hB hT X htab hin => ?_)
  subst hl hD hB hT
  have X : jX κ RX11 cX11_beginAnew 5 (some .int) := X
  unfold f_X11_beginAnew
  refine j_iload_n X 1 rfl dX11_beginAnew_0 rfl ?_
  refine j_call0S X 0 0 (c_X11_isTrial X.tr (memG 358 387 (kD κ) (kB κ) S X9) z p1) me_X11_isTrial ml_X11_196 st_X11_isTrial dX11_beginAnew_1 (rest := []) rfl rfl (by decide) (by decide) (Nat.le_of_ble_eq_true rfl) (fun v1 u32 M31 hM30 => ?_)
  subst M31
  refine j_st (st1 := [.int v1]) rfl ?_
  refine j_istore_n X [(2, .int v1), (0, .ref (kB κ + 358)), (1, .int p1)] dX11_beginAnew_4 rfl (by decide) rfl ?_
  refine j_aload_n X 1 rfl dX11_beginAnew_5 rfl ?_
  refine j_iload_n X 0 rfl dX11_beginAnew_6 rfl ?_
  refine j_join (fun k2 => ∀ (x5 : Int32), J κ 5 rm_X11_beginAnew (jQf κ rm_X11_beginAnew rvI (fun S9 M9 => M9 = memG 358 387 (kD κ) (kB κ) S9 X9) z) (k2 x5) (memG 358 387 (kD κ) (kB κ) S X9) z 0 0 [(0, .ref (kB κ + 358)), (1, .int p1)] 38 [.int x5, .ref (kB κ + 358)]) ?_ (fun k2 hk2 => ?_)
  · intro x5
    refine j_call0V X 0 0 (c_X11_goesWell X.tr S X9 z x5) me_X11_goesWell ml_X11_107 iv_X11_goesWell cf_X11 dX11_beginAnew_38 (memG_at kf_358) (rest := []) rfl rfl (by decide) (by decide) (Nat.le_of_ble_eq_true rfl) (fun v6 S7 M29 hM28 => ?_)
    subst M29
    refine j_st (st1 := [.int v6]) rfl ?_
    refine j_if_ne X 46 dX11_beginAnew_41 (by decide) ?_ ?_
    · refine j_iconst X (0 : Int32) dX11_beginAnew_44 (by rfl) ?_
      exact j_iret X dX11_beginAnew_45 rfl (fun _ h => h)
    · refine j_iconst X (0 : Int32) dX11_beginAnew_46 (by rfl) ?_
      refine j_istore_n X [(3, .int (0 : Int32)), (0, .ref (kB κ + 358)), (1, .int p1)] dX11_beginAnew_47 rfl (by decide) rfl ?_
      refine j_iconst X (0 : Int32) dX11_beginAnew_48 (by rfl) ?_
      refine j_istore X [(4, .int (0 : Int32)), (3, .int (0 : Int32)), (0, .ref (kB κ + 358)), (1, .int p1)] dX11_beginAnew_49 (by decide) rfl ?_
      refine j_lv [2, 3, 1, 0] rfl ?_
      refine j_loop (fun (k : jS → Int32 → Int32 → Option (jR jS)) => ∀ (S9 : jS) (x10 : Int32) (x11 : Int32), J κ 5 rm_X11_beginAnew (jQf κ rm_X11_beginAnew rvI (fun S9 M9 => M9 = memG 358 387 (kD κ) (kB κ) S9 X9) z) (k S9 x10 x11) (memG 358 387 (kD κ) (kB κ) S9 X9) z 0 0 [(0, .ref (kB κ + 358)), (1, .int p1), (3, .int x10), (4, .int x11)] 51 []) (fun _ _ _ => j_none) (fun rec8 hrec8 => ?_) 1000 _ _ _
      intro S9 x10 x11
      refine j_iload X 3 rfl dX11_beginAnew_51 ?_
      refine j_bipush X (20 : Int32) dX11_beginAnew_53 (by rfl) ?_
      refine j_icmp_ge X 100 dX11_beginAnew_55 (by decide) ?_ ?_
      · refine j_iconst X (0 : Int32) dX11_beginAnew_100 (by rfl) ?_
        refine j_istore X [(4, .int (0 : Int32)), (0, .ref (kB κ + 358)), (1, .int p1), (3, .int x10)] dX11_beginAnew_101 (by decide) rfl ?_
        refine j_lv [1, 2, 3, 0] rfl ?_
        refine j_loop (fun (k : jS → Int32 → Option (jR jS)) => ∀ (S13 : jS) (x14 : Int32), J κ 5 rm_X11_beginAnew (jQf κ rm_X11_beginAnew rvI (fun S9 M9 => M9 = memG 358 387 (kD κ) (kB κ) S9 X9) z) (k S13 x14) (memG 358 387 (kD κ) (kB κ) S13 X9) z 0 0 [(0, .ref (kB κ + 358)), (1, .int p1), (3, .int x10), (4, .int x14)] 103 []) (fun _ _ => j_none) (fun rec12 hrec12 => ?_) 1000 _ _
        intro S13 x14
        refine j_iload X 3 rfl dX11_beginAnew_103 ?_
        refine j_sipush X (160 : Int32) dX11_beginAnew_105 (by rfl) ?_
        refine j_icmp_ge X 131 dX11_beginAnew_108 (by decide) ?_ ?_
        · refine j_aload_n X 0 rfl dX11_beginAnew_131 rfl ?_
          refine g_getf X 23 kf_358 cf_X11 (by decide) fl_X11_74 dX11_beginAnew_132 rfl rfl ?_
          refine j_iload_n X 1 rfl dX11_beginAnew_135 rfl ?_
          refine j_iconst X (0 : Int32) dX11_beginAnew_136 (by rfl) ?_
          refine g_iast X 6 kf_380 (by decide) dX11_beginAnew_137 (fun h17 S15 => ?_)
          refine j_aload_n X 0 rfl dX11_beginAnew_138 rfl ?_
          refine j_dup X dX11_beginAnew_139 rfl ?_
          refine g_getf X 30 kf_358 cf_X11 (by decide) fl_X11_191 dX11_beginAnew_140 rfl rfl ?_
          refine j_iconst X (1 : Int32) dX11_beginAnew_143 (by rfl) ?_
          refine j_iadd X dX11_beginAnew_144 ?_
          refine g_putf X 30 kf_358 cf_X11 (by decide) fl_X11_191 dX11_beginAnew_145 rfl rfl rfl rfl (Nat.le_of_ble_eq_true rfl) rfl (fun S16 => ?_)
          refine j_iload_n X 2 rfl dX11_beginAnew_148 rfl ?_
          exact j_iret X dX11_beginAnew_149 rfl (fun _ h => h)
        · refine j_aload_n X 0 rfl dX11_beginAnew_111 rfl ?_
          refine g_getf X 25 kf_358 cf_X11 (by decide) fl_X11_80 dX11_beginAnew_112 rfl rfl ?_
          refine j_sipush X (160 : Int32) dX11_beginAnew_115 (by rfl) ?_
          refine j_iload_n X 1 rfl dX11_beginAnew_118 rfl ?_
          refine j_imul X dX11_beginAnew_119 ?_
          refine j_iload X 3 rfl dX11_beginAnew_120 ?_
          refine j_iadd X dX11_beginAnew_122 ?_
          refine j_iconst X (0 : Int32) dX11_beginAnew_123 (by rfl) ?_
          refine g_iast X 960 kf_382 (by decide) dX11_beginAnew_124 (fun h20 S18 => ?_)
          refine j_iincL X 3 (fun x19 => [(4, .int x19), (0, .ref (kB κ + 358)), (1, .int p1), (3, .int x10)]) dX11_beginAnew_125 rfl (by rfl) (by decide) (fun _ => rfl) (fun x19 => ?_)
          refine j_goto X 103 dX11_beginAnew_128 (by decide) ?_
          refine j_lv [1, 2, 3, 0] rfl ?_
          exact hrec12 S18 x19
      · refine j_iload_n X 2 rfl dX11_beginAnew_58 rfl ?_
        refine j_aload_n X 0 rfl dX11_beginAnew_59 rfl ?_
        refine g_getf X 24 kf_358 cf_X11 (by decide) fl_X11_77 dX11_beginAnew_60 rfl rfl ?_
        refine j_bipush X (20 : Int32) dX11_beginAnew_63 (by rfl) ?_
        refine j_iload_n X 1 rfl dX11_beginAnew_65 rfl ?_
        refine j_imul X dX11_beginAnew_66 ?_
        refine j_iload X 3 rfl dX11_beginAnew_67 ?_
        refine j_iadd X dX11_beginAnew_69 ?_
        refine g_iald X 120 kf_381 (by decide) dX11_beginAnew_70 (fun h27 => ?_)
        refine j_join (fun k21 => ∀ (x22 : Int32), J κ 5 rm_X11_beginAnew (jQf κ rm_X11_beginAnew rvI (fun S9 M9 => M9 = memG 358 387 (kD κ) (kB κ) S9 X9) z) (k21 x22) (memG 358 387 (kD κ) (kB κ) S9 X9) z 0 0 [(0, .ref (kB κ + 358)), (1, .int p1), (4, .int x11)] 79 [.int x22, .int x10]) ?_ (fun k21 hk21 => ?_)
        · intro x22
          refine j_iadd X dX11_beginAnew_79 ?_
          refine j_letE (fun x23 => ?_)
          refine j_istore_n X [(3, .int x23), (0, .ref (kB κ + 358)), (1, .int p1), (4, .int x11)] dX11_beginAnew_80 rfl (by decide) rfl ?_
          refine j_aload_n X 1 rfl dX11_beginAnew_81 rfl ?_
          refine g_getf X 24 kf_358 cf_X11 (by decide) fl_X11_77 dX11_beginAnew_82 rfl rfl ?_
          refine j_bipush X (20 : Int32) dX11_beginAnew_85 (by rfl) ?_
          refine j_iload_n X 2 rfl dX11_beginAnew_87 rfl ?_
          refine j_imul X dX11_beginAnew_88 ?_
          refine j_iload X 3 rfl dX11_beginAnew_89 ?_
          refine j_iadd X dX11_beginAnew_91 ?_
          refine j_iconst X (0 : Int32) dX11_beginAnew_92 (by rfl) ?_
          refine g_iast X 120 kf_381 (by decide) dX11_beginAnew_93 (fun h26 S24 => ?_)
          refine j_iincL X 3 (fun x25 => [(4, .int x25), (3, .int x23), (0, .ref (kB κ + 358)), (1, .int p1)]) dX11_beginAnew_94 rfl (by rfl) (by decide) (fun _ => rfl) (fun x25 => ?_)
          refine j_goto X 51 dX11_beginAnew_97 (by decide) ?_
          refine j_lv [2, 3, 1, 0] rfl ?_
          exact hrec8 S24 x23 x25
        · refine j_if_le X 78 dX11_beginAnew_71 (by decide) ?_ ?_
          · refine j_iconst X (0 : Int32) dX11_beginAnew_78 (by rfl) ?_
            refine j_lv [0, 1, 3] rfl ?_
            exact hk21 (0 : Int32)
          · refine j_iconst X (1 : Int32) dX11_beginAnew_74 (by rfl) ?_
            refine j_goto X 79 dX11_beginAnew_75 (by decide) ?_
            refine j_lv [0, 1, 3] rfl ?_
            exact hk21 (1 : Int32)
  · refine j_if_ne X 14 dX11_beginAnew_7 (by decide) ?_ ?_
    · refine j_iconst X (1 : Int32) dX11_beginAnew_10 (by rfl) ?_
      refine j_goto X 38 dX11_beginAnew_11 (by decide) ?_
      refine j_lv [1, 2] rfl ?_
      exact hk2 (1 : Int32)
    · refine j_aload_n X 1 rfl dX11_beginAnew_14 rfl ?_
      refine g_getf X 26 kf_358 cf_X11 (by decide) fl_X11_83 dX11_beginAnew_15 rfl rfl ?_
      refine j_iload_n X 2 rfl dX11_beginAnew_18 rfl ?_
      refine g_zald X 6 kf_383 (by decide) dX11_beginAnew_19 (fun h4 => ?_)
      refine j_join (fun k3 => ∀ (_ : Unit), J κ 5 rm_X11_beginAnew (jQf κ rm_X11_beginAnew rvI (fun S9 M9 => M9 = memG 358 387 (kD κ) (kB κ) S9 X9) z) (k3 ()) (memG 358 387 (kD κ) (kB κ) S X9) z 0 0 [(0, .ref (kB κ + 358)), (1, .int p1)] 33 [.ref (kB κ + 358)]) ?_ (fun k3 hk3 => ?_)
      · intro _
        refine j_iconst X (2 : Int32) dX11_beginAnew_33 (by rfl) ?_
        refine j_goto X 38 dX11_beginAnew_34 (by decide) ?_
        exact hk2 (2 : Int32)
      · refine j_if_ne X 33 dX11_beginAnew_20 (by decide) ?_ ?_
        · refine j_aload_n X 1 rfl dX11_beginAnew_23 rfl ?_
          refine g_getf X 30 kf_358 cf_X11 (by decide) fl_X11_191 dX11_beginAnew_24 rfl rfl ?_
          refine j_sipush X (400 : Int32) dX11_beginAnew_27 (by rfl) ?_
          refine j_icmp_ne X 37 dX11_beginAnew_30 (by decide) ?_ ?_
          · refine j_lv [1, 2] rfl ?_
            exact hk3 ()
          · refine j_iconst X (0 : Int32) dX11_beginAnew_37 (by rfl) ?_
            refine j_lv [1, 2] rfl ?_
            exact hk2 (0 : Int32)
        · refine j_lv [1, 2] rfl ?_
          exact hk3 ()
def f_X11_arm (S : jS) (p1 : Int32) (p2 : Int32) : Option (jR jS) := jbin0 (f_X11_isTrial p1) (fun v1 _ => joinK (fun (x8 : Int32) => jbin0 (f_X11_goesWell S x8) (fun v9 S10 => joinK (fun (x16 : Int32) => some (0, x16, S10)) (fun k11 => (if v9 = (0 : Int32) then k11 (0 : Int32) else jbin0 (f_X11_armNow S10 p1 p2) (fun v12 _ => k11 v12))))) (fun k2 => joinK (fun (_ : Unit) => k2 (1 : Int32)) (fun k3 => (if v1 = (0 : Int32) then k3 () else jbin0 (f_X11_isPerson p2) (fun v4 _ => (if v4 = (0 : Int32) then k3 () else k2 (0 : Int32)))))))
abbrev rm_X11_arm : Room := { frames := 2, cells := 0, slots := 0, locals := 42 }
set_option maxHeartbeats 4000000 in
set_option maxRecDepth 100000 in
theorem c_X11_arm {l : Launch} {D : va_G} {B t0 : Nat} (hl9 : l.stackTraces = false) (S : jS) (X9 : jMem) (z : Nat → Prop) (p1 : Int32) (p2 : Int32) : jCf l D B t0 yX11_arm cX11_arm 3 (some .int) rm_X11_arm [.ref (B + 358), .int p1, .int p2] (memG 358 387 D B S X9) z (f_X11_arm S p1 p2) rvI (fun S9 M9 => M9 = memG 358 387 D B S9 X9) z := by
  refine jC_of hl9 (me_X11_arm).1 [(0, .ref (B + 358)), (1, .int p1), (2, .int p2)] ⟨by decide +kernel, Nat.le_of_ble_eq_true rfl⟩ rfl (fun κ hl hD hB hT X htab hin => ?_)
  subst hl hD hB hT
  have X : jX κ RX11 cX11_arm 3 (some .int) := X
  unfold f_X11_arm
  refine j_aload_n X 0 rfl dX11_arm_0 rfl ?_
  refine j_iload_n X 1 rfl dX11_arm_1 rfl ?_
  refine j_call0S X 0 0 (c_X11_isTrial X.tr (memG 358 387 (kD κ) (kB κ) S X9) z p1) me_X11_isTrial ml_X11_196 st_X11_isTrial dX11_arm_2 (rest := [.ref (kB κ + 358)]) rfl rfl (by decide) (by decide) (Nat.le_of_ble_eq_true rfl) (fun v1 u21 M20 hM19 => ?_)
  subst M20
  refine j_st (st1 := [.int v1, .ref (kB κ + 358)]) rfl ?_
  refine j_join (fun k2 => ∀ (x8 : Int32), J κ 3 rm_X11_arm (jQf κ rm_X11_arm rvI (fun S9 M9 => M9 = memG 358 387 (kD κ) (kB κ) S9 X9) z) (k2 x8) (memG 358 387 (kD κ) (kB κ) S X9) z 0 0 [(0, .ref (kB κ + 358)), (1, .int p1), (2, .int p2)] 20 [.int x8, .ref (kB κ + 358)]) ?_ (fun k2 hk2 => ?_)
  · intro x8
    refine j_call0V X 0 0 (c_X11_goesWell X.tr S X9 z x8) me_X11_goesWell ml_X11_107 iv_X11_goesWell cf_X11 dX11_arm_20 (memG_at kf_358) (rest := []) rfl rfl (by decide) (by decide) (Nat.le_of_ble_eq_true rfl) (fun v9 S10 M18 hM17 => ?_)
    subst M18
    refine j_st (st1 := [.int v9]) rfl ?_
    refine j_join (fun k11 => ∀ (x16 : Int32), J κ 3 rm_X11_arm (jQf κ rm_X11_arm rvI (fun S9 M9 => M9 = memG 358 387 (kD κ) (kB κ) S9 X9) z) (k11 x16) (memG 358 387 (kD κ) (kB κ) S10 X9) z 0 0 [] 36 [.int x16]) ?_ (fun k11 hk11 => ?_)
    · intro x16
      exact j_iret X dX11_arm_36 rfl (fun _ h => h)
    · refine j_if_eq X 35 dX11_arm_23 (by decide) ?_ ?_
      · refine j_iconst X (0 : Int32) dX11_arm_35 (by rfl) ?_
        refine j_lv [] rfl ?_
        exact hk11 (0 : Int32)
      · refine j_aload_n X 0 rfl dX11_arm_26 rfl ?_
        refine j_iload_n X 1 rfl dX11_arm_27 rfl ?_
        refine j_iload_n X 2 rfl dX11_arm_28 rfl ?_
        refine j_call0V X 0 0 (c_X11_armNow X.tr S10 X9 z p1 p2) me_X11_armNow ml_X11_179 iv_X11_armNow cf_X11 dX11_arm_29 (memG_at kf_358) (rest := []) rfl rfl (by decide) (by decide) (Nat.le_of_ble_eq_true rfl) (fun v12 u15 M14 hM13 => ?_)
        subst M14
        refine j_st (st1 := [.int v12]) rfl ?_
        refine j_goto X 36 dX11_arm_32 (by decide) ?_
        refine j_lv [] rfl ?_
        exact hk11 v12
  · refine j_join (fun k3 => ∀ (_ : Unit), J κ 3 rm_X11_arm (jQf κ rm_X11_arm rvI (fun S9 M9 => M9 = memG 358 387 (kD κ) (kB κ) S9 X9) z) (k3 ()) (memG 358 387 (kD κ) (kB κ) S X9) z 0 0 [(0, .ref (kB κ + 358)), (1, .int p1), (2, .int p2)] 19 [.ref (kB κ + 358)]) ?_ (fun k3 hk3 => ?_)
    · intro _
      refine j_iconst X (1 : Int32) dX11_arm_19 (by rfl) ?_
      exact hk2 (1 : Int32)
    · refine j_if_eq X 19 dX11_arm_5 (by decide) ?_ ?_
      · exact hk3 ()
      · refine j_iload_n X 2 rfl dX11_arm_8 rfl ?_
        refine j_call0S X 0 0 (c_X11_isPerson X.tr (memG 358 387 (kD κ) (kB κ) S X9) z p2) me_X11_isPerson ml_X11_103 st_X11_isPerson dX11_arm_9 (rest := [.ref (kB κ + 358)]) rfl rfl (by decide) (by decide) (Nat.le_of_ble_eq_true rfl) (fun v4 u7 M6 hM5 => ?_)
        subst M6
        refine j_st (st1 := [.int v4, .ref (kB κ + 358)]) rfl ?_
        refine j_if_eq X 19 dX11_arm_12 (by decide) ?_ ?_
        · exact hk3 ()
        · refine j_iconst X (0 : Int32) dX11_arm_15 (by rfl) ?_
          refine j_goto X 20 dX11_arm_16 (by decide) ?_
          exact hk2 (0 : Int32)
def f_X11_kept (S : jS) (p1 : Int32) (p2 : Int32) : Option (jR jS) := jbin0 (f_X11_isTrial p1) (fun v1 _ => joinK (fun (x8 : Int32) => jbin0 (f_X11_goesWell S x8) (fun v9 S10 => joinK (fun (x13 : Int32) => some (0, x13, S10)) (fun k11 => (if v9 = (0 : Int32) then k11 (0 : Int32) else chk (inb ((((20 : Int32) * p1) + p2)) 120) (k11 (((S10 381 ((((20 : Int32) * p1) + p2)).toNatClampNeg) - (1 : Int32)))))))) (fun k2 => joinK (fun (_ : Unit) => k2 (1 : Int32)) (fun k3 => (if v1 = (0 : Int32) then k3 () else jbin0 (f_X11_isPerson p2) (fun v4 _ => (if v4 = (0 : Int32) then k3 () else k2 (0 : Int32)))))))
abbrev rm_X11_kept : Room := { frames := 2, cells := 0, slots := 0, locals := 42 }
set_option maxHeartbeats 4000000 in
set_option maxRecDepth 100000 in
theorem c_X11_kept {l : Launch} {D : va_G} {B t0 : Nat} (hl9 : l.stackTraces = false) (S : jS) (X9 : jMem) (z : Nat → Prop) (p1 : Int32) (p2 : Int32) : jCf l D B t0 yX11_kept cX11_kept 3 (some .int) rm_X11_kept [.ref (B + 358), .int p1, .int p2] (memG 358 387 D B S X9) z (f_X11_kept S p1 p2) rvI (fun S9 M9 => M9 = memG 358 387 D B S9 X9) z := by
  refine jC_of hl9 (me_X11_kept).1 [(0, .ref (B + 358)), (1, .int p1), (2, .int p2)] ⟨by decide +kernel, Nat.le_of_ble_eq_true rfl⟩ rfl (fun κ hl hD hB hT X htab hin => ?_)
  subst hl hD hB hT
  have X : jX κ RX11 cX11_kept 3 (some .int) := X
  unfold f_X11_kept
  refine j_aload_n X 0 rfl dX11_kept_0 rfl ?_
  refine j_iload_n X 1 rfl dX11_kept_1 rfl ?_
  refine j_call0S X 0 0 (c_X11_isTrial X.tr (memG 358 387 (kD κ) (kB κ) S X9) z p1) me_X11_isTrial ml_X11_196 st_X11_isTrial dX11_kept_2 (rest := [.ref (kB κ + 358)]) rfl rfl (by decide) (by decide) (Nat.le_of_ble_eq_true rfl) (fun v1 u18 M17 hM16 => ?_)
  subst M17
  refine j_st (st1 := [.int v1, .ref (kB κ + 358)]) rfl ?_
  refine j_join (fun k2 => ∀ (x8 : Int32), J κ 3 rm_X11_kept (jQf κ rm_X11_kept rvI (fun S9 M9 => M9 = memG 358 387 (kD κ) (kB κ) S9 X9) z) (k2 x8) (memG 358 387 (kD κ) (kB κ) S X9) z 0 0 [(0, .ref (kB κ + 358)), (1, .int p1), (2, .int p2)] 20 [.int x8, .ref (kB κ + 358)]) ?_ (fun k2 hk2 => ?_)
  · intro x8
    refine j_call0V X 0 0 (c_X11_goesWell X.tr S X9 z x8) me_X11_goesWell ml_X11_107 iv_X11_goesWell cf_X11 dX11_kept_20 (memG_at kf_358) (rest := []) rfl rfl (by decide) (by decide) (Nat.le_of_ble_eq_true rfl) (fun v9 S10 M15 hM14 => ?_)
    subst M15
    refine j_st (st1 := [.int v9]) rfl ?_
    refine j_join (fun k11 => ∀ (x13 : Int32), J κ 3 rm_X11_kept (jQf κ rm_X11_kept rvI (fun S9 M9 => M9 = memG 358 387 (kD κ) (kB κ) S9 X9) z) (k11 x13) (memG 358 387 (kD κ) (kB κ) S10 X9) z 0 0 [] 43 [.int x13]) ?_ (fun k11 hk11 => ?_)
    · intro x13
      exact j_iret X dX11_kept_43 rfl (fun _ h => h)
    · refine j_if_eq X 42 dX11_kept_23 (by decide) ?_ ?_
      · refine j_iconst X (0 : Int32) dX11_kept_42 (by rfl) ?_
        refine j_lv [] rfl ?_
        exact hk11 (0 : Int32)
      · refine j_aload_n X 0 rfl dX11_kept_26 rfl ?_
        refine g_getf X 24 kf_358 cf_X11 (by decide) fl_X11_77 dX11_kept_27 rfl rfl ?_
        refine j_bipush X (20 : Int32) dX11_kept_30 (by rfl) ?_
        refine j_iload_n X 1 rfl dX11_kept_32 rfl ?_
        refine j_imul X dX11_kept_33 ?_
        refine j_iload_n X 2 rfl dX11_kept_34 rfl ?_
        refine j_iadd X dX11_kept_35 ?_
        refine g_iald X 120 kf_381 (by decide) dX11_kept_36 (fun h12 => ?_)
        refine j_iconst X (1 : Int32) dX11_kept_37 (by rfl) ?_
        refine j_isub X dX11_kept_38 ?_
        refine j_goto X 43 dX11_kept_39 (by decide) ?_
        refine j_lv [] rfl ?_
        exact hk11 (((S10 381 ((((20 : Int32) * p1) + p2)).toNatClampNeg) - (1 : Int32)))
  · refine j_join (fun k3 => ∀ (_ : Unit), J κ 3 rm_X11_kept (jQf κ rm_X11_kept rvI (fun S9 M9 => M9 = memG 358 387 (kD κ) (kB κ) S9 X9) z) (k3 ()) (memG 358 387 (kD κ) (kB κ) S X9) z 0 0 [(0, .ref (kB κ + 358)), (1, .int p1), (2, .int p2)] 19 [.ref (kB κ + 358)]) ?_ (fun k3 hk3 => ?_)
    · intro _
      refine j_iconst X (1 : Int32) dX11_kept_19 (by rfl) ?_
      exact hk2 (1 : Int32)
    · refine j_if_eq X 19 dX11_kept_5 (by decide) ?_ ?_
      · exact hk3 ()
      · refine j_iload_n X 2 rfl dX11_kept_8 rfl ?_
        refine j_call0S X 0 0 (c_X11_isPerson X.tr (memG 358 387 (kD κ) (kB κ) S X9) z p2) me_X11_isPerson ml_X11_103 st_X11_isPerson dX11_kept_9 (rest := [.ref (kB κ + 358)]) rfl rfl (by decide) (by decide) (Nat.le_of_ble_eq_true rfl) (fun v4 u7 M6 hM5 => ?_)
        subst M6
        refine j_st (st1 := [.int v4, .ref (kB κ + 358)]) rfl ?_
        refine j_if_eq X 19 dX11_kept_12 (by decide) ?_ ?_
        · exact hk3 ()
        · refine j_iconst X (0 : Int32) dX11_kept_15 (by rfl) ?_
          refine j_goto X 20 dX11_kept_16 (by decide) ?_
          exact hk2 (0 : Int32)
def f_X11_hold (S : jS) (p1 : Int32) (p2 : Int32) : Option (jR jS) := jbin0 (f_X11_isPerson p1) (fun v1 _ => joinK (fun (x8 : Int32) => joinK (fun (x10 : Int32) => joinK (fun (x14 : Int32) => jbin0 (f_X11_goesWell S x14) (fun v15 S16 => (if v15 = (0 : Int32) then some (0, (0 : Int32), S16) else jbin0 (f_X11_findViews S16) (fun _ S17 => chk (inb x10 160) (chk (inb x10 160) (letE (jset S17 385 x10.toNatClampNeg (S17 376 x10.toNatClampNeg)) fun S18 => chk (inb x10 160) (chk (inb x10 160) (letE (jset S18 384 x10.toNatClampNeg (((S18 384 x10.toNatClampNeg) + (64 : Int32)))) fun S19 => letE (jset S19 358 30 (((S19 358 30) + (1 : Int32)))) fun S20 => chk (inb x10 160) (some (0, (S20 385 x10.toNatClampNeg), S20)))))))))) (fun k11 => (if x8 = (0 : Int32) then k11 (1 : Int32) else chk (inb x10 160) (joinK (fun (_ : Unit) => k11 (2 : Int32)) (fun k12 => (if (64 : Int32) ≤ (S 384 x10.toNatClampNeg) then k12 () else (if (S 358 30) = (400 : Int32) then k12 () else k11 (0 : Int32)))))))) (fun k9 => (if x8 = (0 : Int32) then k9 (0 : Int32) else k9 ((((8 : Int32) * p1) + p2))))) (fun k2 => joinK (fun (_ : Unit) => k2 (0 : Int32)) (fun k3 => (if v1 = (0 : Int32) then k3 () else jbin0 (f_X11_isFlag p2) (fun v4 _ => (if v4 = (0 : Int32) then k3 () else k2 (1 : Int32)))))))
abbrev rm_X11_hold : Room := { frames := 7, cells := 0, slots := 0, locals := 166 }
set_option maxHeartbeats 4000000 in
set_option maxRecDepth 100000 in
theorem c_X11_hold {l : Launch} {D : va_G} {B t0 : Nat} (hl9 : l.stackTraces = false) (S : jS) (X9 : jMem) (z : Nat → Prop) (p1 : Int32) (p2 : Int32) : jCf l D B t0 yX11_hold cX11_hold 5 (some .int) rm_X11_hold [.ref (B + 358), .int p1, .int p2] (memG 358 387 D B S X9) z (f_X11_hold S p1 p2) rvI (fun S9 M9 => M9 = memG 358 387 D B S9 X9) z := by
  refine jC_of hl9 (me_X11_hold).1 [(0, .ref (B + 358)), (1, .int p1), (2, .int p2)] ⟨by decide +kernel, Nat.le_of_ble_eq_true rfl⟩ rfl (fun κ hl hD hB hT X htab hin => ?_)
  subst hl hD hB hT
  have X : jX κ RX11 cX11_hold 5 (some .int) := X
  unfold f_X11_hold
  refine j_iload_n X 1 rfl dX11_hold_0 rfl ?_
  refine j_call0S X 0 0 (c_X11_isPerson X.tr (memG 358 387 (kD κ) (kB κ) S X9) z p1) me_X11_isPerson ml_X11_103 st_X11_isPerson dX11_hold_1 (rest := []) rfl rfl (by decide) (by decide) (Nat.le_of_ble_eq_true rfl) (fun v1 u33 M32 hM31 => ?_)
  subst M32
  refine j_st (st1 := [.int v1]) rfl ?_
  refine j_join (fun k2 => ∀ (x8 : Int32), J κ 5 rm_X11_hold (jQf κ rm_X11_hold rvI (fun S9 M9 => M9 = memG 358 387 (kD κ) (kB κ) S9 X9) z) (k2 x8) (memG 358 387 (kD κ) (kB κ) S X9) z 0 0 [(0, .ref (kB κ + 358)), (1, .int p1), (2, .int p2)] 19 [.int x8]) ?_ (fun k2 hk2 => ?_)
  · intro x8
    refine j_istore_n X [(3, .int x8), (0, .ref (kB κ + 358)), (1, .int p1), (2, .int p2)] dX11_hold_19 rfl (by decide) rfl ?_
    refine j_iload_n X 0 rfl dX11_hold_20 rfl ?_
    refine j_join (fun k9 => ∀ (x10 : Int32), J κ 5 rm_X11_hold (jQf κ rm_X11_hold rvI (fun S9 M9 => M9 = memG 358 387 (kD κ) (kB κ) S9 X9) z) (k9 x10) (memG 358 387 (kD κ) (kB κ) S X9) z 0 0 [(0, .ref (kB κ + 358)), (3, .int x8)] 34 [.int x10]) ?_ (fun k9 hk9 => ?_)
    · intro x10
      refine j_istore X [(4, .int x10), (0, .ref (kB κ + 358)), (3, .int x8)] dX11_hold_34 (by decide) rfl ?_
      refine j_aload_n X 1 rfl dX11_hold_36 rfl ?_
      refine j_iload_n X 2 rfl dX11_hold_37 rfl ?_
      refine j_join (fun k11 => ∀ (x14 : Int32), J κ 5 rm_X11_hold (jQf κ rm_X11_hold rvI (fun S9 M9 => M9 = memG 358 387 (kD κ) (kB κ) S9 X9) z) (k11 x14) (memG 358 387 (kD κ) (kB κ) S X9) z 0 0 [(0, .ref (kB κ + 358)), (4, .int x10)] 72 [.int x14, .ref (kB κ + 358)]) ?_ (fun k11 hk11 => ?_)
      · intro x14
        refine j_call0V X 0 0 (c_X11_goesWell X.tr S X9 z x14) me_X11_goesWell ml_X11_107 iv_X11_goesWell cf_X11 dX11_hold_72 (memG_at kf_358) (rest := []) rfl rfl (by decide) (by decide) (Nat.le_of_ble_eq_true rfl) (fun v15 S16 M30 hM29 => ?_)
        subst M30
        refine j_st (st1 := [.int v15]) rfl ?_
        refine j_if_ne X 80 dX11_hold_75 (by decide) ?_ ?_
        · refine j_iconst X (0 : Int32) dX11_hold_78 (by rfl) ?_
          exact j_iret X dX11_hold_79 rfl (fun _ h => h)
        · refine j_aload_n X 0 rfl dX11_hold_80 rfl ?_
          refine j_call0V X 0 0 (c_X11_findViews X.tr S16 X9 z) me_X11_findViews ml_X11_164 iv_X11_findViews cf_X11 dX11_hold_81 (memG_at kf_358) (rest := []) rfl rfl (by decide) (by decide) (Nat.le_of_ble_eq_true rfl) (fun v28 S17 M27 hM26 => ?_)
          subst M27
          refine j_st (st1 := []) rfl ?_
          refine j_aload_n X 0 rfl dX11_hold_84 rfl ?_
          refine g_getf X 28 kf_358 cf_X11 (by decide) fl_X11_89 dX11_hold_85 rfl rfl ?_
          refine j_iload X 1 rfl dX11_hold_88 ?_
          refine j_aload_n X 0 rfl dX11_hold_90 rfl ?_
          refine g_getf X 19 kf_358 cf_X11 (by decide) fl_X11_62 dX11_hold_91 rfl rfl ?_
          refine j_iload X 1 rfl dX11_hold_94 ?_
          refine g_iald X 160 kf_376 (by decide) dX11_hold_96 (fun h25 => ?_)
          refine g_iast X 160 kf_385 (by decide) dX11_hold_97 (fun h24 S18 => ?_)
          refine j_aload_n X 0 rfl dX11_hold_98 rfl ?_
          refine g_getf X 27 kf_358 cf_X11 (by decide) fl_X11_86 dX11_hold_99 rfl rfl ?_
          refine j_iload X 1 rfl dX11_hold_102 ?_
          refine j_dup2 X dX11_hold_104 rfl rfl ?_
          refine g_iald X 160 kf_384 (by decide) dX11_hold_105 (fun h23 => ?_)
          refine j_bipush X (64 : Int32) dX11_hold_106 (by rfl) ?_
          refine j_iadd X dX11_hold_108 ?_
          refine g_iast X 160 kf_384 (by decide) dX11_hold_109 (fun h22 S19 => ?_)
          refine j_aload_n X 0 rfl dX11_hold_110 rfl ?_
          refine j_dup X dX11_hold_111 rfl ?_
          refine g_getf X 30 kf_358 cf_X11 (by decide) fl_X11_191 dX11_hold_112 rfl rfl ?_
          refine j_iconst X (1 : Int32) dX11_hold_115 (by rfl) ?_
          refine j_iadd X dX11_hold_116 ?_
          refine g_putf X 30 kf_358 cf_X11 (by decide) fl_X11_191 dX11_hold_117 rfl rfl rfl rfl (Nat.le_of_ble_eq_true rfl) rfl (fun S20 => ?_)
          refine j_aload_n X 0 rfl dX11_hold_120 rfl ?_
          refine g_getf X 28 kf_358 cf_X11 (by decide) fl_X11_89 dX11_hold_121 rfl rfl ?_
          refine j_iload X 1 rfl dX11_hold_124 ?_
          refine g_iald X 160 kf_385 (by decide) dX11_hold_126 (fun h21 => ?_)
          exact j_iret X dX11_hold_127 rfl (fun _ h => h)
      · refine j_if_ne X 45 dX11_hold_38 (by decide) ?_ ?_
        · refine j_iconst X (1 : Int32) dX11_hold_41 (by rfl) ?_
          refine j_goto X 72 dX11_hold_42 (by decide) ?_
          refine j_lv [1, 0] rfl ?_
          exact hk11 (1 : Int32)
        · refine j_aload_n X 1 rfl dX11_hold_45 rfl ?_
          refine g_getf X 27 kf_358 cf_X11 (by decide) fl_X11_86 dX11_hold_46 rfl rfl ?_
          refine j_iload X 0 rfl dX11_hold_49 ?_
          refine g_iald X 160 kf_384 (by decide) dX11_hold_51 (fun h13 => ?_)
          refine j_bipush X (64 : Int32) dX11_hold_52 (by rfl) ?_
          refine j_join (fun k12 => ∀ (_ : Unit), J κ 5 rm_X11_hold (jQf κ rm_X11_hold rvI (fun S9 M9 => M9 = memG 358 387 (kD κ) (kB κ) S9 X9) z) (k12 ()) (memG 358 387 (kD κ) (kB κ) S X9) z 0 0 [(0, .ref (kB κ + 358)), (4, .int x10)] 67 [.ref (kB κ + 358)]) ?_ (fun k12 hk12 => ?_)
          · intro _
            refine j_iconst X (2 : Int32) dX11_hold_67 (by rfl) ?_
            refine j_goto X 72 dX11_hold_68 (by decide) ?_
            exact hk11 (2 : Int32)
          · refine j_icmp_ge X 67 dX11_hold_54 (by decide) ?_ ?_
            · refine j_lv [1, 0] rfl ?_
              exact hk12 ()
            · refine j_aload_n X 1 rfl dX11_hold_57 rfl ?_
              refine g_getf X 30 kf_358 cf_X11 (by decide) fl_X11_191 dX11_hold_58 rfl rfl ?_
              refine j_sipush X (400 : Int32) dX11_hold_61 (by rfl) ?_
              refine j_icmp_ne X 71 dX11_hold_64 (by decide) ?_ ?_
              · refine j_lv [1, 0] rfl ?_
                exact hk12 ()
              · refine j_iconst X (0 : Int32) dX11_hold_71 (by rfl) ?_
                refine j_lv [1, 0] rfl ?_
                exact hk11 (0 : Int32)
    · refine j_if_eq X 33 dX11_hold_21 (by decide) ?_ ?_
      · refine j_iconst X (0 : Int32) dX11_hold_33 (by rfl) ?_
        refine j_lv [1, 0] rfl ?_
        exact hk9 (0 : Int32)
      · refine j_bipush X (8 : Int32) dX11_hold_24 (by rfl) ?_
        refine j_iload_n X 2 rfl dX11_hold_26 rfl ?_
        refine j_imul X dX11_hold_27 ?_
        refine j_iload_n X 3 rfl dX11_hold_28 rfl ?_
        refine j_iadd X dX11_hold_29 ?_
        refine j_goto X 34 dX11_hold_30 (by decide) ?_
        refine j_lv [1, 0] rfl ?_
        exact hk9 ((((8 : Int32) * p1) + p2))
  · refine j_join (fun k3 => ∀ (_ : Unit), J κ 5 rm_X11_hold (jQf κ rm_X11_hold rvI (fun S9 M9 => M9 = memG 358 387 (kD κ) (kB κ) S9 X9) z) (k3 ()) (memG 358 387 (kD κ) (kB κ) S X9) z 0 0 [(0, .ref (kB κ + 358)), (1, .int p1), (2, .int p2)] 18 []) ?_ (fun k3 hk3 => ?_)
    · intro _
      refine j_iconst X (0 : Int32) dX11_hold_18 (by rfl) ?_
      exact hk2 (0 : Int32)
    · refine j_if_eq X 18 dX11_hold_4 (by decide) ?_ ?_
      · exact hk3 ()
      · refine j_iload_n X 2 rfl dX11_hold_7 rfl ?_
        refine j_call0S X 0 0 (c_X11_isFlag X.tr (memG 358 387 (kD κ) (kB κ) S X9) z p2) me_X11_isFlag ml_X11_167 st_X11_isFlag dX11_hold_8 (rest := []) rfl rfl (by decide) (by decide) (Nat.le_of_ble_eq_true rfl) (fun v4 u7 M6 hM5 => ?_)
        subst M6
        refine j_st (st1 := [.int v4]) rfl ?_
        refine j_if_eq X 18 dX11_hold_11 (by decide) ?_ ?_
        · exact hk3 ()
        · refine j_iconst X (1 : Int32) dX11_hold_14 (by rfl) ?_
          refine j_goto X 19 dX11_hold_15 (by decide) ?_
          exact hk2 (1 : Int32)
def f_X11_release (S : jS) (p1 : Int32) (p2 : Int32) : Option (jR jS) := jbin0 (f_X11_isPerson p1) (fun v1 _ => joinK (fun (x8 : Int32) => joinK (fun (x10 : Int32) => joinK (fun (x14 : Int32) => jbin0 (f_X11_goesWell S x14) (fun v15 S16 => (if v15 = (0 : Int32) then some (0, (0 : Int32), S16) else chk (inb x10 160) (chk (inb x10 160) (letE (jset S16 384 x10.toNatClampNeg (((S16 384 x10.toNatClampNeg) - (64 : Int32)))) fun S17 => letE (jset S17 358 30 (((S17 358 30) + (1 : Int32)))) fun S18 => jbin0 (f_X11_findViews S18) (fun _ S19 => chk (inb x10 160) (some (0, (S19 376 x10.toNatClampNeg), S19)))))))) (fun k11 => (if x8 = (0 : Int32) then k11 (1 : Int32) else chk (inb x10 160) (joinK (fun (_ : Unit) => k11 (2 : Int32)) (fun k12 => (if (S 384 x10.toNatClampNeg) < (64 : Int32) then k12 () else (if (S 358 30) = (400 : Int32) then k12 () else k11 (0 : Int32)))))))) (fun k9 => (if x8 = (0 : Int32) then k9 (0 : Int32) else k9 ((((8 : Int32) * p1) + p2))))) (fun k2 => joinK (fun (_ : Unit) => k2 (0 : Int32)) (fun k3 => (if v1 = (0 : Int32) then k3 () else jbin0 (f_X11_isFlag p2) (fun v4 _ => (if v4 = (0 : Int32) then k3 () else k2 (1 : Int32)))))))
abbrev rm_X11_release : Room := { frames := 7, cells := 0, slots := 0, locals := 166 }
set_option maxHeartbeats 4000000 in
set_option maxRecDepth 100000 in
theorem c_X11_release {l : Launch} {D : va_G} {B t0 : Nat} (hl9 : l.stackTraces = false) (S : jS) (X9 : jMem) (z : Nat → Prop) (p1 : Int32) (p2 : Int32) : jCf l D B t0 yX11_release cX11_release 5 (some .int) rm_X11_release [.ref (B + 358), .int p1, .int p2] (memG 358 387 D B S X9) z (f_X11_release S p1 p2) rvI (fun S9 M9 => M9 = memG 358 387 D B S9 X9) z := by
  refine jC_of hl9 (me_X11_release).1 [(0, .ref (B + 358)), (1, .int p1), (2, .int p2)] ⟨by decide +kernel, Nat.le_of_ble_eq_true rfl⟩ rfl (fun κ hl hD hB hT X htab hin => ?_)
  subst hl hD hB hT
  have X : jX κ RX11 cX11_release 5 (some .int) := X
  unfold f_X11_release
  refine j_iload_n X 1 rfl dX11_release_0 rfl ?_
  refine j_call0S X 0 0 (c_X11_isPerson X.tr (memG 358 387 (kD κ) (kB κ) S X9) z p1) me_X11_isPerson ml_X11_103 st_X11_isPerson dX11_release_1 (rest := []) rfl rfl (by decide) (by decide) (Nat.le_of_ble_eq_true rfl) (fun v1 u30 M29 hM28 => ?_)
  subst M29
  refine j_st (st1 := [.int v1]) rfl ?_
  refine j_join (fun k2 => ∀ (x8 : Int32), J κ 5 rm_X11_release (jQf κ rm_X11_release rvI (fun S9 M9 => M9 = memG 358 387 (kD κ) (kB κ) S9 X9) z) (k2 x8) (memG 358 387 (kD κ) (kB κ) S X9) z 0 0 [(0, .ref (kB κ + 358)), (1, .int p1), (2, .int p2)] 19 [.int x8]) ?_ (fun k2 hk2 => ?_)
  · intro x8
    refine j_istore_n X [(3, .int x8), (0, .ref (kB κ + 358)), (1, .int p1), (2, .int p2)] dX11_release_19 rfl (by decide) rfl ?_
    refine j_iload_n X 0 rfl dX11_release_20 rfl ?_
    refine j_join (fun k9 => ∀ (x10 : Int32), J κ 5 rm_X11_release (jQf κ rm_X11_release rvI (fun S9 M9 => M9 = memG 358 387 (kD κ) (kB κ) S9 X9) z) (k9 x10) (memG 358 387 (kD κ) (kB κ) S X9) z 0 0 [(0, .ref (kB κ + 358)), (3, .int x8)] 34 [.int x10]) ?_ (fun k9 hk9 => ?_)
    · intro x10
      refine j_istore X [(4, .int x10), (0, .ref (kB κ + 358)), (3, .int x8)] dX11_release_34 (by decide) rfl ?_
      refine j_aload_n X 1 rfl dX11_release_36 rfl ?_
      refine j_iload_n X 2 rfl dX11_release_37 rfl ?_
      refine j_join (fun k11 => ∀ (x14 : Int32), J κ 5 rm_X11_release (jQf κ rm_X11_release rvI (fun S9 M9 => M9 = memG 358 387 (kD κ) (kB κ) S9 X9) z) (k11 x14) (memG 358 387 (kD κ) (kB κ) S X9) z 0 0 [(0, .ref (kB κ + 358)), (4, .int x10)] 72 [.int x14, .ref (kB κ + 358)]) ?_ (fun k11 hk11 => ?_)
      · intro x14
        refine j_call0V X 0 0 (c_X11_goesWell X.tr S X9 z x14) me_X11_goesWell ml_X11_107 iv_X11_goesWell cf_X11 dX11_release_72 (memG_at kf_358) (rest := []) rfl rfl (by decide) (by decide) (Nat.le_of_ble_eq_true rfl) (fun v15 S16 M27 hM26 => ?_)
        subst M27
        refine j_st (st1 := [.int v15]) rfl ?_
        refine j_if_ne X 80 dX11_release_75 (by decide) ?_ ?_
        · refine j_iconst X (0 : Int32) dX11_release_78 (by rfl) ?_
          exact j_iret X dX11_release_79 rfl (fun _ h => h)
        · refine j_aload_n X 0 rfl dX11_release_80 rfl ?_
          refine g_getf X 27 kf_358 cf_X11 (by decide) fl_X11_86 dX11_release_81 rfl rfl ?_
          refine j_iload X 1 rfl dX11_release_84 ?_
          refine j_dup2 X dX11_release_86 rfl rfl ?_
          refine g_iald X 160 kf_384 (by decide) dX11_release_87 (fun h25 => ?_)
          refine j_bipush X (64 : Int32) dX11_release_88 (by rfl) ?_
          refine j_isub X dX11_release_90 ?_
          refine g_iast X 160 kf_384 (by decide) dX11_release_91 (fun h24 S17 => ?_)
          refine j_aload_n X 0 rfl dX11_release_92 rfl ?_
          refine j_dup X dX11_release_93 rfl ?_
          refine g_getf X 30 kf_358 cf_X11 (by decide) fl_X11_191 dX11_release_94 rfl rfl ?_
          refine j_iconst X (1 : Int32) dX11_release_97 (by rfl) ?_
          refine j_iadd X dX11_release_98 ?_
          refine g_putf X 30 kf_358 cf_X11 (by decide) fl_X11_191 dX11_release_99 rfl rfl rfl rfl (Nat.le_of_ble_eq_true rfl) rfl (fun S18 => ?_)
          refine j_aload_n X 0 rfl dX11_release_102 rfl ?_
          refine j_call0V X 0 0 (c_X11_findViews X.tr S18 X9 z) me_X11_findViews ml_X11_164 iv_X11_findViews cf_X11 dX11_release_103 (memG_at kf_358) (rest := []) rfl rfl (by decide) (by decide) (Nat.le_of_ble_eq_true rfl) (fun v23 S19 M22 hM21 => ?_)
          subst M22
          refine j_st (st1 := []) rfl ?_
          refine j_aload_n X 0 rfl dX11_release_106 rfl ?_
          refine g_getf X 19 kf_358 cf_X11 (by decide) fl_X11_62 dX11_release_107 rfl rfl ?_
          refine j_iload X 1 rfl dX11_release_110 ?_
          refine g_iald X 160 kf_376 (by decide) dX11_release_112 (fun h20 => ?_)
          exact j_iret X dX11_release_113 rfl (fun _ h => h)
      · refine j_if_ne X 45 dX11_release_38 (by decide) ?_ ?_
        · refine j_iconst X (1 : Int32) dX11_release_41 (by rfl) ?_
          refine j_goto X 72 dX11_release_42 (by decide) ?_
          refine j_lv [1, 0] rfl ?_
          exact hk11 (1 : Int32)
        · refine j_aload_n X 1 rfl dX11_release_45 rfl ?_
          refine g_getf X 27 kf_358 cf_X11 (by decide) fl_X11_86 dX11_release_46 rfl rfl ?_
          refine j_iload X 0 rfl dX11_release_49 ?_
          refine g_iald X 160 kf_384 (by decide) dX11_release_51 (fun h13 => ?_)
          refine j_bipush X (64 : Int32) dX11_release_52 (by rfl) ?_
          refine j_join (fun k12 => ∀ (_ : Unit), J κ 5 rm_X11_release (jQf κ rm_X11_release rvI (fun S9 M9 => M9 = memG 358 387 (kD κ) (kB κ) S9 X9) z) (k12 ()) (memG 358 387 (kD κ) (kB κ) S X9) z 0 0 [(0, .ref (kB κ + 358)), (4, .int x10)] 67 [.ref (kB κ + 358)]) ?_ (fun k12 hk12 => ?_)
          · intro _
            refine j_iconst X (2 : Int32) dX11_release_67 (by rfl) ?_
            refine j_goto X 72 dX11_release_68 (by decide) ?_
            exact hk11 (2 : Int32)
          · refine j_icmp_lt X 67 dX11_release_54 (by decide) ?_ ?_
            · refine j_lv [1, 0] rfl ?_
              exact hk12 ()
            · refine j_aload_n X 1 rfl dX11_release_57 rfl ?_
              refine g_getf X 30 kf_358 cf_X11 (by decide) fl_X11_191 dX11_release_58 rfl rfl ?_
              refine j_sipush X (400 : Int32) dX11_release_61 (by rfl) ?_
              refine j_icmp_ne X 71 dX11_release_64 (by decide) ?_ ?_
              · refine j_lv [1, 0] rfl ?_
                exact hk12 ()
              · refine j_iconst X (0 : Int32) dX11_release_71 (by rfl) ?_
                refine j_lv [1, 0] rfl ?_
                exact hk11 (0 : Int32)
    · refine j_if_eq X 33 dX11_release_21 (by decide) ?_ ?_
      · refine j_iconst X (0 : Int32) dX11_release_33 (by rfl) ?_
        refine j_lv [1, 0] rfl ?_
        exact hk9 (0 : Int32)
      · refine j_bipush X (8 : Int32) dX11_release_24 (by rfl) ?_
        refine j_iload_n X 2 rfl dX11_release_26 rfl ?_
        refine j_imul X dX11_release_27 ?_
        refine j_iload_n X 3 rfl dX11_release_28 rfl ?_
        refine j_iadd X dX11_release_29 ?_
        refine j_goto X 34 dX11_release_30 (by decide) ?_
        refine j_lv [1, 0] rfl ?_
        exact hk9 ((((8 : Int32) * p1) + p2))
  · refine j_join (fun k3 => ∀ (_ : Unit), J κ 5 rm_X11_release (jQf κ rm_X11_release rvI (fun S9 M9 => M9 = memG 358 387 (kD κ) (kB κ) S9 X9) z) (k3 ()) (memG 358 387 (kD κ) (kB κ) S X9) z 0 0 [(0, .ref (kB κ + 358)), (1, .int p1), (2, .int p2)] 18 []) ?_ (fun k3 hk3 => ?_)
    · intro _
      refine j_iconst X (0 : Int32) dX11_release_18 (by rfl) ?_
      exact hk2 (0 : Int32)
    · refine j_if_eq X 18 dX11_release_4 (by decide) ?_ ?_
      · exact hk3 ()
      · refine j_iload_n X 2 rfl dX11_release_7 rfl ?_
        refine j_call0S X 0 0 (c_X11_isFlag X.tr (memG 358 387 (kD κ) (kB κ) S X9) z p2) me_X11_isFlag ml_X11_167 st_X11_isFlag dX11_release_8 (rest := []) rfl rfl (by decide) (by decide) (Nat.le_of_ble_eq_true rfl) (fun v4 u7 M6 hM5 => ?_)
        subst M6
        refine j_st (st1 := [.int v4]) rfl ?_
        refine j_if_eq X 18 dX11_release_11 (by decide) ?_ ?_
        · exact hk3 ()
        · refine j_iconst X (1 : Int32) dX11_release_14 (by rfl) ?_
          refine j_goto X 19 dX11_release_15 (by decide) ?_
          exact hk2 (1 : Int32)
def f_X11_holdTrial (S : jS) (p1 : Int32) : Option (jR jS) := jbin0 (f_X11_isTrial p1) (fun v1 _ => joinK (fun (x5 : Int32) => jbin0 (f_X11_goesWell S x5) (fun v6 S7 => (if v6 = (0 : Int32) then some (0, (0 : Int32), S7) else loopK (fun (rec8 : jS → Int32 → Int32 → Option (jR jS)) (S9 : jS) (x10 : Int32) (x11 : Int32) => (if (160 : Int32) ≤ x11 then chk (inb p1 6) (letE (jset S9 383 p1.toNatClampNeg (vp_nar .boolean (1 : Int32))) fun S12 => letE (jset S12 358 30 (((S12 358 30) + (1 : Int32)))) fun S13 => some (0, x10, S13)) else chk (inb ((((160 : Int32) * p1) + x11)) 960) (letE (((S9 382 ((((160 : Int32) * p1) + x11)).toNatClampNeg) - (1 : Int32))) fun x15 => joinK (fun (S27 : jS) (x28 : Int32) => letE (x11 + (1 : Int32)) fun x29 => rec8 S27 x28 x29) (fun k16 => (if x15 = (-1 : Int32) then k16 S9 x10 else chk (inb x11 160) (joinK (fun (x19 : Int32) => chk (inb x11 160) (letE (jset S9 385 x11.toNatClampNeg x19) fun S20 => chk (inb x11 160) (chk (inb x11 160) (letE (jset S20 384 x11.toNatClampNeg (((S20 384 x11.toNatClampNeg) ||| ((1 : Int32) <<< (p1 &&& 31))))) fun S21 => letE (x10 + (1 : Int32)) fun x22 => k16 S21 x22)))) (fun k17 => (if (S9 384 x11.toNatClampNeg) = (0 : Int32) then k17 x15 else chk (inb x11 160) (k17 (S9 385 x11.toNatClampNeg)))))))))) (fun _ _ _ => none) 1000 S7 (0 : Int32) (0 : Int32)))) (fun k2 => (if v1 = (0 : Int32) then k2 (1 : Int32) else chk (inb p1 6) (joinK (fun (_ : Unit) => k2 (2 : Int32)) (fun k3 => (if (S 383 p1.toNatClampNeg) = (0 : Int32) then (if (S 358 30) = (400 : Int32) then k3 () else k2 (0 : Int32)) else k3 ()))))))
abbrev rm_X11_holdTrial : Room := { frames := 2, cells := 0, slots := 0, locals := 42 }
set_option maxHeartbeats 4000000 in
set_option maxRecDepth 100000 in
theorem c_X11_holdTrial {l : Launch} {D : va_G} {B t0 : Nat} (hl9 : l.stackTraces = false) (S : jS) (X9 : jMem) (z : Nat → Prop) (p1 : Int32) : jCf l D B t0 yX11_holdTrial cX11_holdTrial 6 (some .int) rm_X11_holdTrial [.ref (B + 358), .int p1] (memG 358 387 D B S X9) z (f_X11_holdTrial S p1) rvI (fun S9 M9 => M9 = memG 358 387 D B S9 X9) z := by
  refine jC_of hl9 (me_X11_holdTrial).1 [(0, .ref (B + 358)), (1, .int p1)] ⟨by decide +kernel, Nat.le_of_ble_eq_true rfl⟩ rfl (fun κ hl hD hB hT X htab hin => ?_)
  subst hl hD hB hT
  have X : jX κ RX11 cX11_holdTrial 6 (some .int) := X
  unfold f_X11_holdTrial
  refine j_iload_n X 1 rfl dX11_holdTrial_0 rfl ?_
  refine j_call0S X 0 0 (c_X11_isTrial X.tr (memG 358 387 (kD κ) (kB κ) S X9) z p1) me_X11_isTrial ml_X11_196 st_X11_isTrial dX11_holdTrial_1 (rest := []) rfl rfl (by decide) (by decide) (Nat.le_of_ble_eq_true rfl) (fun v1 u35 M34 hM33 => ?_)
  subst M34
  refine j_st (st1 := [.int v1]) rfl ?_
  refine j_istore_n X [(2, .int v1), (0, .ref (kB κ + 358)), (1, .int p1)] dX11_holdTrial_4 rfl (by decide) rfl ?_
  refine j_aload_n X 1 rfl dX11_holdTrial_5 rfl ?_
  refine j_iload_n X 0 rfl dX11_holdTrial_6 rfl ?_
  refine j_join (fun k2 => ∀ (x5 : Int32), J κ 6 rm_X11_holdTrial (jQf κ rm_X11_holdTrial rvI (fun S9 M9 => M9 = memG 358 387 (kD κ) (kB κ) S9 X9) z) (k2 x5) (memG 358 387 (kD κ) (kB κ) S X9) z 0 0 [(0, .ref (kB κ + 358)), (1, .int p1)] 38 [.int x5, .ref (kB κ + 358)]) ?_ (fun k2 hk2 => ?_)
  · intro x5
    refine j_call0V X 0 0 (c_X11_goesWell X.tr S X9 z x5) me_X11_goesWell ml_X11_107 iv_X11_goesWell cf_X11 dX11_holdTrial_38 (memG_at kf_358) (rest := []) rfl rfl (by decide) (by decide) (Nat.le_of_ble_eq_true rfl) (fun v6 S7 M32 hM31 => ?_)
    subst M32
    refine j_st (st1 := [.int v6]) rfl ?_
    refine j_if_ne X 46 dX11_holdTrial_41 (by decide) ?_ ?_
    · refine j_iconst X (0 : Int32) dX11_holdTrial_44 (by rfl) ?_
      exact j_iret X dX11_holdTrial_45 rfl (fun _ h => h)
    · refine j_iconst X (0 : Int32) dX11_holdTrial_46 (by rfl) ?_
      refine j_istore_n X [(3, .int (0 : Int32)), (0, .ref (kB κ + 358)), (1, .int p1)] dX11_holdTrial_47 rfl (by decide) rfl ?_
      refine j_iconst X (0 : Int32) dX11_holdTrial_48 (by rfl) ?_
      refine j_istore X [(4, .int (0 : Int32)), (3, .int (0 : Int32)), (0, .ref (kB κ + 358)), (1, .int p1)] dX11_holdTrial_49 (by decide) rfl ?_
      refine j_lv [2, 3, 1, 0] rfl ?_
      refine j_loop (fun (k : jS → Int32 → Int32 → Option (jR jS)) => ∀ (S9 : jS) (x10 : Int32) (x11 : Int32), J κ 6 rm_X11_holdTrial (jQf κ rm_X11_holdTrial rvI (fun S9 M9 => M9 = memG 358 387 (kD κ) (kB κ) S9 X9) z) (k S9 x10 x11) (memG 358 387 (kD κ) (kB κ) S9 X9) z 0 0 [(0, .ref (kB κ + 358)), (1, .int p1), (3, .int x10), (4, .int x11)] 51 []) (fun _ _ _ => j_none) (fun rec8 hrec8 => ?_) 1000 _ _ _
      intro S9 x10 x11
      refine j_iload X 3 rfl dX11_holdTrial_51 ?_
      refine j_sipush X (160 : Int32) dX11_holdTrial_53 (by rfl) ?_
      refine j_icmp_ge X 133 dX11_holdTrial_56 (by decide) ?_ ?_
      · refine j_aload_n X 0 rfl dX11_holdTrial_133 rfl ?_
        refine g_getf X 26 kf_358 cf_X11 (by decide) fl_X11_83 dX11_holdTrial_134 rfl rfl ?_
        refine j_iload_n X 1 rfl dX11_holdTrial_137 rfl ?_
        refine j_iconst X (1 : Int32) dX11_holdTrial_138 (by rfl) ?_
        refine g_zast X 6 kf_383 (by decide) dX11_holdTrial_139 (fun h14 S12 => ?_)
        refine j_aload_n X 0 rfl dX11_holdTrial_140 rfl ?_
        refine j_dup X dX11_holdTrial_141 rfl ?_
        refine g_getf X 30 kf_358 cf_X11 (by decide) fl_X11_191 dX11_holdTrial_142 rfl rfl ?_
        refine j_iconst X (1 : Int32) dX11_holdTrial_145 (by rfl) ?_
        refine j_iadd X dX11_holdTrial_146 ?_
        refine g_putf X 30 kf_358 cf_X11 (by decide) fl_X11_191 dX11_holdTrial_147 rfl rfl rfl rfl (Nat.le_of_ble_eq_true rfl) rfl (fun S13 => ?_)
        refine j_iload_n X 2 rfl dX11_holdTrial_150 rfl ?_
        exact j_iret X dX11_holdTrial_151 rfl (fun _ h => h)
      · refine j_aload_n X 0 rfl dX11_holdTrial_59 rfl ?_
        refine g_getf X 25 kf_358 cf_X11 (by decide) fl_X11_80 dX11_holdTrial_60 rfl rfl ?_
        refine j_sipush X (160 : Int32) dX11_holdTrial_63 (by rfl) ?_
        refine j_iload_n X 1 rfl dX11_holdTrial_66 rfl ?_
        refine j_imul X dX11_holdTrial_67 ?_
        refine j_iload X 3 rfl dX11_holdTrial_68 ?_
        refine j_iadd X dX11_holdTrial_70 ?_
        refine g_iald X 960 kf_382 (by decide) dX11_holdTrial_71 (fun h30 => ?_)
        refine j_iconst X (1 : Int32) dX11_holdTrial_72 (by rfl) ?_
        refine j_isub X dX11_holdTrial_73 ?_
        refine j_letE (fun x15 => ?_)
        refine j_istore X [(5, .int x15), (0, .ref (kB κ + 358)), (1, .int p1), (3, .int x10), (4, .int x11)] dX11_holdTrial_74 (by decide) rfl ?_
        refine j_iload X 0 rfl dX11_holdTrial_76 ?_
        refine j_iconst X (-1 : Int32) dX11_holdTrial_78 (by rfl) ?_
        refine j_join (fun k16 => ∀ (S27 : jS) (x28 : Int32), J κ 6 rm_X11_holdTrial (jQf κ rm_X11_holdTrial rvI (fun S9 M9 => M9 = memG 358 387 (kD κ) (kB κ) S9 X9) z) (k16 S27 x28) (memG 358 387 (kD κ) (kB κ) S27 X9) z 0 0 [(0, .ref (kB κ + 358)), (1, .int p1), (3, .int x28), (4, .int x11)] 127 []) ?_ (fun k16 hk16 => ?_)
        · intro S27 x28
          refine j_iincL X 3 (fun x29 => [(4, .int x29), (0, .ref (kB κ + 358)), (1, .int p1), (3, .int x28)]) dX11_holdTrial_127 rfl (by rfl) (by decide) (fun _ => rfl) (fun x29 => ?_)
          refine j_goto X 51 dX11_holdTrial_130 (by decide) ?_
          refine j_lv [1, 2, 3, 0] rfl ?_
          exact hrec8 S27 x28 x29
        · refine j_icmp_eq X 127 dX11_holdTrial_79 (by decide) ?_ ?_
          · refine j_lv [1, 2, 3, 4] rfl ?_
            exact hk16 S9 x10
          · refine j_aload_n X 1 rfl dX11_holdTrial_82 rfl ?_
            refine g_getf X 28 kf_358 cf_X11 (by decide) fl_X11_89 dX11_holdTrial_83 rfl rfl ?_
            refine j_iload X 4 rfl dX11_holdTrial_86 ?_
            refine j_aload_n X 1 rfl dX11_holdTrial_88 rfl ?_
            refine g_getf X 27 kf_358 cf_X11 (by decide) fl_X11_86 dX11_holdTrial_89 rfl rfl ?_
            refine j_iload X 4 rfl dX11_holdTrial_92 ?_
            refine g_iald X 160 kf_384 (by decide) dX11_holdTrial_94 (fun h26 => ?_)
            refine j_join (fun k17 => ∀ (x19 : Int32), J κ 6 rm_X11_holdTrial (jQf κ rm_X11_holdTrial rvI (fun S9 M9 => M9 = memG 358 387 (kD κ) (kB κ) S9 X9) z) (k17 x19) (memG 358 387 (kD κ) (kB κ) S9 X9) z 0 0 [(0, .ref (kB κ + 358)), (1, .int p1), (3, .int x10), (4, .int x11)] 110 [.int x19, .int x11, .ref (kB κ + 385)]) ?_ (fun k17 hk17 => ?_)
            · intro x19
              refine g_iast X 160 kf_385 (by decide) dX11_holdTrial_110 (fun h25 S20 => ?_)
              refine j_aload_n X 0 rfl dX11_holdTrial_111 rfl ?_
              refine g_getf X 27 kf_358 cf_X11 (by decide) fl_X11_86 dX11_holdTrial_112 rfl rfl ?_
              refine j_iload X 3 rfl dX11_holdTrial_115 ?_
              refine j_dup2 X dX11_holdTrial_117 rfl rfl ?_
              refine g_iald X 160 kf_384 (by decide) dX11_holdTrial_118 (fun h24 => ?_)
              refine j_iconst X (1 : Int32) dX11_holdTrial_119 (by rfl) ?_
              refine j_iload_n X 1 rfl dX11_holdTrial_120 rfl ?_
              refine j_ishl X dX11_holdTrial_121 ?_
              refine j_ior X dX11_holdTrial_122 ?_
              refine g_iast X 160 kf_384 (by decide) dX11_holdTrial_123 (fun h23 S21 => ?_)
              refine j_iincL X 2 (fun x22 => [(3, .int x22), (0, .ref (kB κ + 358)), (1, .int p1), (4, .int x11)]) dX11_holdTrial_124 rfl (by rfl) (by decide) (fun _ => rfl) (fun x22 => ?_)
              refine j_lv [1, 2, 0, 3] rfl ?_
              exact hk16 S21 x22
            · refine j_if_ne X 103 dX11_holdTrial_95 (by decide) ?_ ?_
              · refine j_iload X 0 rfl dX11_holdTrial_98 ?_
                refine j_goto X 110 dX11_holdTrial_100 (by decide) ?_
                refine j_lv [1, 2, 3, 4] rfl ?_
                exact hk17 x15
              · refine j_aload_n X 1 rfl dX11_holdTrial_103 rfl ?_
                refine g_getf X 28 kf_358 cf_X11 (by decide) fl_X11_89 dX11_holdTrial_104 rfl rfl ?_
                refine j_iload X 4 rfl dX11_holdTrial_107 ?_
                refine g_iald X 160 kf_385 (by decide) dX11_holdTrial_109 (fun h18 => ?_)
                refine j_lv [1, 2, 3, 4] rfl ?_
                exact hk17 (S9 385 x11.toNatClampNeg)
  · refine j_if_ne X 14 dX11_holdTrial_7 (by decide) ?_ ?_
    · refine j_iconst X (1 : Int32) dX11_holdTrial_10 (by rfl) ?_
      refine j_goto X 38 dX11_holdTrial_11 (by decide) ?_
      refine j_lv [1, 2] rfl ?_
      exact hk2 (1 : Int32)
    · refine j_aload_n X 1 rfl dX11_holdTrial_14 rfl ?_
      refine g_getf X 26 kf_358 cf_X11 (by decide) fl_X11_83 dX11_holdTrial_15 rfl rfl ?_
      refine j_iload_n X 2 rfl dX11_holdTrial_18 rfl ?_
      refine g_zald X 6 kf_383 (by decide) dX11_holdTrial_19 (fun h4 => ?_)
      refine j_join (fun k3 => ∀ (_ : Unit), J κ 6 rm_X11_holdTrial (jQf κ rm_X11_holdTrial rvI (fun S9 M9 => M9 = memG 358 387 (kD κ) (kB κ) S9 X9) z) (k3 ()) (memG 358 387 (kD κ) (kB κ) S X9) z 0 0 [(0, .ref (kB κ + 358)), (1, .int p1)] 33 [.ref (kB κ + 358)]) ?_ (fun k3 hk3 => ?_)
      · intro _
        refine j_iconst X (2 : Int32) dX11_holdTrial_33 (by rfl) ?_
        refine j_goto X 38 dX11_holdTrial_34 (by decide) ?_
        exact hk2 (2 : Int32)
      · refine j_if_ne X 33 dX11_holdTrial_20 (by decide) ?_ ?_
        · refine j_aload_n X 1 rfl dX11_holdTrial_23 rfl ?_
          refine g_getf X 30 kf_358 cf_X11 (by decide) fl_X11_191 dX11_holdTrial_24 rfl rfl ?_
          refine j_sipush X (400 : Int32) dX11_holdTrial_27 (by rfl) ?_
          refine j_icmp_ne X 37 dX11_holdTrial_30 (by decide) ?_ ?_
          · refine j_lv [1, 2] rfl ?_
            exact hk3 ()
          · refine j_iconst X (0 : Int32) dX11_holdTrial_37 (by rfl) ?_
            refine j_lv [1, 2] rfl ?_
            exact hk2 (0 : Int32)
        · refine j_lv [1, 2] rfl ?_
          exact hk3 ()
def f_X11_releaseTrial (S : jS) (p1 : Int32) : Option (jR jS) := jbin0 (f_X11_isTrial p1) (fun v1 _ => joinK (fun (x5 : Int32) => jbin0 (f_X11_goesWell S x5) (fun v6 S7 => (if v6 = (0 : Int32) then some (0, (0 : Int32), S7) else loopK (fun (rec8 : jS → Int32 → Int32 → Option (jR jS)) (S9 : jS) (x10 : Int32) (x11 : Int32) => (if (160 : Int32) ≤ x11 then chk (inb p1 6) (letE (jset S9 383 p1.toNatClampNeg (vp_nar .boolean (0 : Int32))) fun S12 => letE (jset S12 358 30 (((S12 358 30) + (1 : Int32)))) fun S13 => some (0, x10, S13)) else chk (inb x11 160) (joinK (fun (x16 : Int32) => letE (x10 + x16) fun x17 => chk (inb x11 160) (chk (inb x11 160) (letE (jset S9 384 x11.toNatClampNeg (((S9 384 x11.toNatClampNeg) &&& (((1 : Int32) <<< (p1 &&& 31)) ^^^ (-1 : Int32))))) fun S18 => letE (x11 + (1 : Int32)) fun x19 => rec8 S18 x17 x19))) (fun k15 => (if (S9 384 x11.toNatClampNeg) = ((1 : Int32) <<< (p1 &&& 31)) then k15 (1 : Int32) else k15 (0 : Int32)))))) (fun _ _ _ => none) 1000 S7 (0 : Int32) (0 : Int32)))) (fun k2 => (if v1 = (0 : Int32) then k2 (1 : Int32) else chk (inb p1 6) (joinK (fun (_ : Unit) => k2 (2 : Int32)) (fun k3 => (if (S 383 p1.toNatClampNeg) = (0 : Int32) then k3 () else (if (S 358 30) = (400 : Int32) then k3 () else k2 (0 : Int32))))))))
abbrev rm_X11_releaseTrial : Room := { frames := 2, cells := 0, slots := 0, locals := 42 }
set_option maxHeartbeats 4000000 in
set_option maxRecDepth 100000 in
theorem c_X11_releaseTrial {l : Launch} {D : va_G} {B t0 : Nat} (hl9 : l.stackTraces = false) (S : jS) (X9 : jMem) (z : Nat → Prop) (p1 : Int32) : jCf l D B t0 yX11_releaseTrial cX11_releaseTrial 5 (some .int) rm_X11_releaseTrial [.ref (B + 358), .int p1] (memG 358 387 D B S X9) z (f_X11_releaseTrial S p1) rvI (fun S9 M9 => M9 = memG 358 387 D B S9 X9) z := by
  refine jC_of hl9 (me_X11_releaseTrial).1 [(0, .ref (B + 358)), (1, .int p1)] ⟨by decide +kernel, Nat.le_of_ble_eq_true rfl⟩ rfl (fun κ hl hD hB hT X htab hin => ?_)
  subst hl hD hB hT
  have X : jX κ RX11 cX11_releaseTrial 5 (some .int) := X
  unfold f_X11_releaseTrial
  refine j_iload_n X 1 rfl dX11_releaseTrial_0 rfl ?_
  refine j_call0S X 0 0 (c_X11_isTrial X.tr (memG 358 387 (kD κ) (kB κ) S X9) z p1) me_X11_isTrial ml_X11_196 st_X11_isTrial dX11_releaseTrial_1 (rest := []) rfl rfl (by decide) (by decide) (Nat.le_of_ble_eq_true rfl) (fun v1 u27 M26 hM25 => ?_)
  subst M26
  refine j_st (st1 := [.int v1]) rfl ?_
  refine j_istore_n X [(2, .int v1), (0, .ref (kB κ + 358)), (1, .int p1)] dX11_releaseTrial_4 rfl (by decide) rfl ?_
  refine j_aload_n X 1 rfl dX11_releaseTrial_5 rfl ?_
  refine j_iload_n X 0 rfl dX11_releaseTrial_6 rfl ?_
  refine j_join (fun k2 => ∀ (x5 : Int32), J κ 5 rm_X11_releaseTrial (jQf κ rm_X11_releaseTrial rvI (fun S9 M9 => M9 = memG 358 387 (kD κ) (kB κ) S9 X9) z) (k2 x5) (memG 358 387 (kD κ) (kB κ) S X9) z 0 0 [(0, .ref (kB κ + 358)), (1, .int p1)] 38 [.int x5, .ref (kB κ + 358)]) ?_ (fun k2 hk2 => ?_)
  · intro x5
    refine j_call0V X 0 0 (c_X11_goesWell X.tr S X9 z x5) me_X11_goesWell ml_X11_107 iv_X11_goesWell cf_X11 dX11_releaseTrial_38 (memG_at kf_358) (rest := []) rfl rfl (by decide) (by decide) (Nat.le_of_ble_eq_true rfl) (fun v6 S7 M24 hM23 => ?_)
    subst M24
    refine j_st (st1 := [.int v6]) rfl ?_
    refine j_if_ne X 46 dX11_releaseTrial_41 (by decide) ?_ ?_
    · refine j_iconst X (0 : Int32) dX11_releaseTrial_44 (by rfl) ?_
      exact j_iret X dX11_releaseTrial_45 rfl (fun _ h => h)
    · refine j_iconst X (0 : Int32) dX11_releaseTrial_46 (by rfl) ?_
      refine j_istore_n X [(3, .int (0 : Int32)), (0, .ref (kB κ + 358)), (1, .int p1)] dX11_releaseTrial_47 rfl (by decide) rfl ?_
      refine j_iconst X (0 : Int32) dX11_releaseTrial_48 (by rfl) ?_
      refine j_istore X [(4, .int (0 : Int32)), (3, .int (0 : Int32)), (0, .ref (kB κ + 358)), (1, .int p1)] dX11_releaseTrial_49 (by decide) rfl ?_
      refine j_lv [2, 3, 1, 0] rfl ?_
      refine j_loop (fun (k : jS → Int32 → Int32 → Option (jR jS)) => ∀ (S9 : jS) (x10 : Int32) (x11 : Int32), J κ 5 rm_X11_releaseTrial (jQf κ rm_X11_releaseTrial rvI (fun S9 M9 => M9 = memG 358 387 (kD κ) (kB κ) S9 X9) z) (k S9 x10 x11) (memG 358 387 (kD κ) (kB κ) S9 X9) z 0 0 [(0, .ref (kB κ + 358)), (1, .int p1), (3, .int x10), (4, .int x11)] 51 []) (fun _ _ _ => j_none) (fun rec8 hrec8 => ?_) 1000 _ _ _
      intro S9 x10 x11
      refine j_iload X 3 rfl dX11_releaseTrial_51 ?_
      refine j_sipush X (160 : Int32) dX11_releaseTrial_53 (by rfl) ?_
      refine j_icmp_ge X 101 dX11_releaseTrial_56 (by decide) ?_ ?_
      · refine j_aload_n X 0 rfl dX11_releaseTrial_101 rfl ?_
        refine g_getf X 26 kf_358 cf_X11 (by decide) fl_X11_83 dX11_releaseTrial_102 rfl rfl ?_
        refine j_iload_n X 1 rfl dX11_releaseTrial_105 rfl ?_
        refine j_iconst X (0 : Int32) dX11_releaseTrial_106 (by rfl) ?_
        refine g_zast X 6 kf_383 (by decide) dX11_releaseTrial_107 (fun h14 S12 => ?_)
        refine j_aload_n X 0 rfl dX11_releaseTrial_108 rfl ?_
        refine j_dup X dX11_releaseTrial_109 rfl ?_
        refine g_getf X 30 kf_358 cf_X11 (by decide) fl_X11_191 dX11_releaseTrial_110 rfl rfl ?_
        refine j_iconst X (1 : Int32) dX11_releaseTrial_113 (by rfl) ?_
        refine j_iadd X dX11_releaseTrial_114 ?_
        refine g_putf X 30 kf_358 cf_X11 (by decide) fl_X11_191 dX11_releaseTrial_115 rfl rfl rfl rfl (Nat.le_of_ble_eq_true rfl) rfl (fun S13 => ?_)
        refine j_iload_n X 2 rfl dX11_releaseTrial_118 rfl ?_
        exact j_iret X dX11_releaseTrial_119 rfl (fun _ h => h)
      · refine j_iload_n X 2 rfl dX11_releaseTrial_59 rfl ?_
        refine j_aload_n X 0 rfl dX11_releaseTrial_60 rfl ?_
        refine g_getf X 27 kf_358 cf_X11 (by decide) fl_X11_86 dX11_releaseTrial_61 rfl rfl ?_
        refine j_iload X 3 rfl dX11_releaseTrial_64 ?_
        refine g_iald X 160 kf_384 (by decide) dX11_releaseTrial_66 (fun h22 => ?_)
        refine j_iconst X (1 : Int32) dX11_releaseTrial_67 (by rfl) ?_
        refine j_iload_n X 1 rfl dX11_releaseTrial_68 rfl ?_
        refine j_ishl X dX11_releaseTrial_69 ?_
        refine j_join (fun k15 => ∀ (x16 : Int32), J κ 5 rm_X11_releaseTrial (jQf κ rm_X11_releaseTrial rvI (fun S9 M9 => M9 = memG 358 387 (kD κ) (kB κ) S9 X9) z) (k15 x16) (memG 358 387 (kD κ) (kB κ) S9 X9) z 0 0 [(0, .ref (kB κ + 358)), (1, .int p1), (4, .int x11)] 78 [.int x16, .int x10]) ?_ (fun k15 hk15 => ?_)
        · intro x16
          refine j_iadd X dX11_releaseTrial_78 ?_
          refine j_letE (fun x17 => ?_)
          refine j_istore_n X [(3, .int x17), (0, .ref (kB κ + 358)), (1, .int p1), (4, .int x11)] dX11_releaseTrial_79 rfl (by decide) rfl ?_
          refine j_aload_n X 1 rfl dX11_releaseTrial_80 rfl ?_
          refine g_getf X 27 kf_358 cf_X11 (by decide) fl_X11_86 dX11_releaseTrial_81 rfl rfl ?_
          refine j_iload X 3 rfl dX11_releaseTrial_84 ?_
          refine j_dup2 X dX11_releaseTrial_86 rfl rfl ?_
          refine g_iald X 160 kf_384 (by decide) dX11_releaseTrial_87 (fun h21 => ?_)
          refine j_iconst X (1 : Int32) dX11_releaseTrial_88 (by rfl) ?_
          refine j_iload_n X 2 rfl dX11_releaseTrial_89 rfl ?_
          refine j_ishl X dX11_releaseTrial_90 ?_
          refine j_iconst X (-1 : Int32) dX11_releaseTrial_91 (by rfl) ?_
          refine j_ixor X dX11_releaseTrial_92 ?_
          refine j_iand X dX11_releaseTrial_93 ?_
          refine g_iast X 160 kf_384 (by decide) dX11_releaseTrial_94 (fun h20 S18 => ?_)
          refine j_iincL X 3 (fun x19 => [(4, .int x19), (3, .int x17), (0, .ref (kB κ + 358)), (1, .int p1)]) dX11_releaseTrial_95 rfl (by rfl) (by decide) (fun _ => rfl) (fun x19 => ?_)
          refine j_goto X 51 dX11_releaseTrial_98 (by decide) ?_
          refine j_lv [2, 3, 1, 0] rfl ?_
          exact hrec8 S18 x17 x19
        · refine j_icmp_ne X 77 dX11_releaseTrial_70 (by decide) ?_ ?_
          · refine j_iconst X (1 : Int32) dX11_releaseTrial_73 (by rfl) ?_
            refine j_goto X 78 dX11_releaseTrial_74 (by decide) ?_
            refine j_lv [0, 1, 3] rfl ?_
            exact hk15 (1 : Int32)
          · refine j_iconst X (0 : Int32) dX11_releaseTrial_77 (by rfl) ?_
            refine j_lv [0, 1, 3] rfl ?_
            exact hk15 (0 : Int32)
  · refine j_if_ne X 14 dX11_releaseTrial_7 (by decide) ?_ ?_
    · refine j_iconst X (1 : Int32) dX11_releaseTrial_10 (by rfl) ?_
      refine j_goto X 38 dX11_releaseTrial_11 (by decide) ?_
      refine j_lv [1, 2] rfl ?_
      exact hk2 (1 : Int32)
    · refine j_aload_n X 1 rfl dX11_releaseTrial_14 rfl ?_
      refine g_getf X 26 kf_358 cf_X11 (by decide) fl_X11_83 dX11_releaseTrial_15 rfl rfl ?_
      refine j_iload_n X 2 rfl dX11_releaseTrial_18 rfl ?_
      refine g_zald X 6 kf_383 (by decide) dX11_releaseTrial_19 (fun h4 => ?_)
      refine j_join (fun k3 => ∀ (_ : Unit), J κ 5 rm_X11_releaseTrial (jQf κ rm_X11_releaseTrial rvI (fun S9 M9 => M9 = memG 358 387 (kD κ) (kB κ) S9 X9) z) (k3 ()) (memG 358 387 (kD κ) (kB κ) S X9) z 0 0 [(0, .ref (kB κ + 358)), (1, .int p1)] 33 [.ref (kB κ + 358)]) ?_ (fun k3 hk3 => ?_)
      · intro _
        refine j_iconst X (2 : Int32) dX11_releaseTrial_33 (by rfl) ?_
        refine j_goto X 38 dX11_releaseTrial_34 (by decide) ?_
        exact hk2 (2 : Int32)
      · refine j_if_eq X 33 dX11_releaseTrial_20 (by decide) ?_ ?_
        · refine j_lv [1, 2] rfl ?_
          exact hk3 ()
        · refine j_aload_n X 1 rfl dX11_releaseTrial_23 rfl ?_
          refine g_getf X 30 kf_358 cf_X11 (by decide) fl_X11_191 dX11_releaseTrial_24 rfl rfl ?_
          refine j_sipush X (400 : Int32) dX11_releaseTrial_27 (by rfl) ?_
          refine j_icmp_ne X 37 dX11_releaseTrial_30 (by decide) ?_ ?_
          · refine j_lv [1, 2] rfl ?_
            exact hk3 ()
          · refine j_iconst X (0 : Int32) dX11_releaseTrial_37 (by rfl) ?_
            refine j_lv [1, 2] rfl ?_
            exact hk2 (0 : Int32)
def f_X11_isHeld (S : jS) (p1 : Int32) (p2 : Int32) : Option (jR jS) := jbin0 (f_X11_isPerson p1) (fun v1 _ => joinK (fun (x8 : Int32) => jbin0 (f_X11_goesWell S x8) (fun v9 S10 => joinK (fun (x14 : Int32) => chk (isb x14) (some (0, x14, S10))) (fun k11 => joinK (fun (_ : Unit) => k11 (0 : Int32)) (fun k12 => (if v9 = (0 : Int32) then k12 () else chk (inb ((((8 : Int32) * p1) + p2)) 160) ((if (S10 384 ((((8 : Int32) * p1) + p2)).toNatClampNeg) = (0 : Int32) then k12 () else k11 (1 : Int32)))))))) (fun k2 => joinK (fun (_ : Unit) => k2 (1 : Int32)) (fun k3 => (if v1 = (0 : Int32) then k3 () else jbin0 (f_X11_isFlag p2) (fun v4 _ => (if v4 = (0 : Int32) then k3 () else k2 (0 : Int32)))))))
abbrev rm_X11_isHeld : Room := { frames := 2, cells := 0, slots := 0, locals := 42 }
set_option maxHeartbeats 4000000 in
set_option maxRecDepth 100000 in
theorem c_X11_isHeld {l : Launch} {D : va_G} {B t0 : Nat} (hl9 : l.stackTraces = false) (S : jS) (X9 : jMem) (z : Nat → Prop) (p1 : Int32) (p2 : Int32) : jCf l D B t0 yX11_isHeld cX11_isHeld 3 (some .boolean) rm_X11_isHeld [.ref (B + 358), .int p1, .int p2] (memG 358 387 D B S X9) z (f_X11_isHeld S p1 p2) rvI (fun S9 M9 => M9 = memG 358 387 D B S9 X9) z := by
  refine jC_of hl9 (me_X11_isHeld).1 [(0, .ref (B + 358)), (1, .int p1), (2, .int p2)] ⟨by decide +kernel, Nat.le_of_ble_eq_true rfl⟩ rfl (fun κ hl hD hB hT X htab hin => ?_)
  subst hl hD hB hT
  have X : jX κ RX11 cX11_isHeld 3 (some .boolean) := X
  unfold f_X11_isHeld
  refine j_aload_n X 0 rfl dX11_isHeld_0 rfl ?_
  refine j_iload_n X 1 rfl dX11_isHeld_1 rfl ?_
  refine j_call0S X 0 0 (c_X11_isPerson X.tr (memG 358 387 (kD κ) (kB κ) S X9) z p1) me_X11_isPerson ml_X11_103 st_X11_isPerson dX11_isHeld_2 (rest := [.ref (kB κ + 358)]) rfl rfl (by decide) (by decide) (Nat.le_of_ble_eq_true rfl) (fun v1 u19 M18 hM17 => ?_)
  subst M18
  refine j_st (st1 := [.int v1, .ref (kB κ + 358)]) rfl ?_
  refine j_join (fun k2 => ∀ (x8 : Int32), J κ 3 rm_X11_isHeld (jQf κ rm_X11_isHeld rvI (fun S9 M9 => M9 = memG 358 387 (kD κ) (kB κ) S9 X9) z) (k2 x8) (memG 358 387 (kD κ) (kB κ) S X9) z 0 0 [(0, .ref (kB κ + 358)), (1, .int p1), (2, .int p2)] 20 [.int x8, .ref (kB κ + 358)]) ?_ (fun k2 hk2 => ?_)
  · intro x8
    refine j_call0V X 0 0 (c_X11_goesWell X.tr S X9 z x8) me_X11_goesWell ml_X11_107 iv_X11_goesWell cf_X11 dX11_isHeld_20 (memG_at kf_358) (rest := []) rfl rfl (by decide) (by decide) (Nat.le_of_ble_eq_true rfl) (fun v9 S10 M16 hM15 => ?_)
    subst M16
    refine j_st (st1 := [.int v9]) rfl ?_
    refine j_join (fun k11 => ∀ (x14 : Int32), J κ 3 rm_X11_isHeld (jQf κ rm_X11_isHeld rvI (fun S9 M9 => M9 = memG 358 387 (kD κ) (kB κ) S9 X9) z) (k11 x14) (memG 358 387 (kD κ) (kB κ) S10 X9) z 0 0 [] 45 [.int x14]) ?_ (fun k11 hk11 => ?_)
    · intro x14
      exact j_zret X dX11_isHeld_45 rfl (fun _ h => h)
    · refine j_join (fun k12 => ∀ (_ : Unit), J κ 3 rm_X11_isHeld (jQf κ rm_X11_isHeld rvI (fun S9 M9 => M9 = memG 358 387 (kD κ) (kB κ) S9 X9) z) (k12 ()) (memG 358 387 (kD κ) (kB κ) S10 X9) z 0 0 [] 44 []) ?_ (fun k12 hk12 => ?_)
      · intro _
        refine j_iconst X (0 : Int32) dX11_isHeld_44 (by rfl) ?_
        exact hk11 (0 : Int32)
      · refine j_if_eq X 44 dX11_isHeld_23 (by decide) ?_ ?_
        · refine j_lv [] rfl ?_
          exact hk12 ()
        · refine j_aload_n X 0 rfl dX11_isHeld_26 rfl ?_
          refine g_getf X 27 kf_358 cf_X11 (by decide) fl_X11_86 dX11_isHeld_27 rfl rfl ?_
          refine j_bipush X (8 : Int32) dX11_isHeld_30 (by rfl) ?_
          refine j_iload_n X 1 rfl dX11_isHeld_32 rfl ?_
          refine j_imul X dX11_isHeld_33 ?_
          refine j_iload_n X 2 rfl dX11_isHeld_34 rfl ?_
          refine j_iadd X dX11_isHeld_35 ?_
          refine g_iald X 160 kf_384 (by decide) dX11_isHeld_36 (fun h13 => ?_)
          refine j_if_eq X 44 dX11_isHeld_37 (by decide) ?_ ?_
          · refine j_lv [] rfl ?_
            exact hk12 ()
          · refine j_iconst X (1 : Int32) dX11_isHeld_40 (by rfl) ?_
            refine j_goto X 45 dX11_isHeld_41 (by decide) ?_
            refine j_lv [] rfl ?_
            exact hk11 (1 : Int32)
  · refine j_join (fun k3 => ∀ (_ : Unit), J κ 3 rm_X11_isHeld (jQf κ rm_X11_isHeld rvI (fun S9 M9 => M9 = memG 358 387 (kD κ) (kB κ) S9 X9) z) (k3 ()) (memG 358 387 (kD κ) (kB κ) S X9) z 0 0 [(0, .ref (kB κ + 358)), (1, .int p1), (2, .int p2)] 19 [.ref (kB κ + 358)]) ?_ (fun k3 hk3 => ?_)
    · intro _
      refine j_iconst X (1 : Int32) dX11_isHeld_19 (by rfl) ?_
      exact hk2 (1 : Int32)
    · refine j_if_eq X 19 dX11_isHeld_5 (by decide) ?_ ?_
      · exact hk3 ()
      · refine j_iload_n X 2 rfl dX11_isHeld_8 rfl ?_
        refine j_call0S X 0 0 (c_X11_isFlag X.tr (memG 358 387 (kD κ) (kB κ) S X9) z p2) me_X11_isFlag ml_X11_167 st_X11_isFlag dX11_isHeld_9 (rest := [.ref (kB κ + 358)]) rfl rfl (by decide) (by decide) (Nat.le_of_ble_eq_true rfl) (fun v4 u7 M6 hM5 => ?_)
        subst M6
        refine j_st (st1 := [.int v4, .ref (kB κ + 358)]) rfl ?_
        refine j_if_eq X 19 dX11_isHeld_12 (by decide) ?_ ?_
        · exact hk3 ()
        · refine j_iconst X (0 : Int32) dX11_isHeld_15 (by rfl) ?_
          refine j_goto X 20 dX11_isHeld_16 (by decide) ?_
          exact hk2 (0 : Int32)
def f_X11_entries (S : jS) : Option (jR jS) := letE (jset S 358 0 (0 : Int32)) fun S1 => some (0, (S1 358 30), S1)
abbrev rm_X11_entries : Room := { frames := 0, cells := 0, slots := 0, locals := 0 }
set_option maxHeartbeats 4000000 in
set_option maxRecDepth 100000 in
theorem c_X11_entries {l : Launch} {D : va_G} {B t0 : Nat} (hl9 : l.stackTraces = false) (S : jS) (X9 : jMem) (z : Nat → Prop) : jCf l D B t0 yX11_entries cX11_entries 1 (some .int) rm_X11_entries [.ref (B + 358)] (memG 358 387 D B S X9) z (f_X11_entries S) rvI (fun S9 M9 => M9 = memG 358 387 D B S9 X9) z := by
  refine jC_of hl9 (me_X11_entries).1 [(0, .ref (B + 358))] ⟨by decide +kernel, Nat.le_of_ble_eq_true rfl⟩ rfl (fun κ hl hD hB hT X htab hin => ?_)
  subst hl hD hB hT
  have X : jX κ RX11 cX11_entries 1 (some .int) := X
  unfold f_X11_entries
  refine j_aload_n X 0 rfl dX11_entries_0 rfl ?_
  refine j_iconst X (0 : Int32) dX11_entries_1 (by rfl) ?_
  refine g_putf X 0 kf_358 cf_X11 (by decide) fl_X11_95 dX11_entries_2 rfl rfl rfl rfl (Nat.le_of_ble_eq_true rfl) rfl (fun S1 => ?_)
  refine j_aload_n X 0 rfl dX11_entries_5 rfl ?_
  refine g_getf X 30 kf_358 cf_X11 (by decide) fl_X11_191 dX11_entries_6 rfl rfl ?_
  exact j_iret X dX11_entries_9 rfl (fun _ h => h)
def f_X11_shownLast (S : jS) (p1 : Int32) (p2 : Int32) : Option (jR jS) := jbin0 (f_X11_isPerson p1) (fun v1 _ => joinK (fun (x8 : Int32) => jbin0 (f_X11_goesWell S x8) (fun v9 S10 => joinK (fun (x13 : Int32) => some (0, x13, S10)) (fun k11 => (if v9 = (0 : Int32) then k11 (0 : Int32) else chk (inb ((((8 : Int32) * p1) + p2)) 160) (k11 (((S10 386 ((((8 : Int32) * p1) + p2)).toNatClampNeg) - (1 : Int32)))))))) (fun k2 => joinK (fun (_ : Unit) => k2 (1 : Int32)) (fun k3 => (if v1 = (0 : Int32) then k3 () else jbin0 (f_X11_isFlag p2) (fun v4 _ => (if v4 = (0 : Int32) then k3 () else k2 (0 : Int32)))))))
abbrev rm_X11_shownLast : Room := { frames := 2, cells := 0, slots := 0, locals := 42 }
set_option maxHeartbeats 4000000 in
set_option maxRecDepth 100000 in
theorem c_X11_shownLast {l : Launch} {D : va_G} {B t0 : Nat} (hl9 : l.stackTraces = false) (S : jS) (X9 : jMem) (z : Nat → Prop) (p1 : Int32) (p2 : Int32) : jCf l D B t0 yX11_shownLast cX11_shownLast 3 (some .int) rm_X11_shownLast [.ref (B + 358), .int p1, .int p2] (memG 358 387 D B S X9) z (f_X11_shownLast S p1 p2) rvI (fun S9 M9 => M9 = memG 358 387 D B S9 X9) z := by
  refine jC_of hl9 (me_X11_shownLast).1 [(0, .ref (B + 358)), (1, .int p1), (2, .int p2)] ⟨by decide +kernel, Nat.le_of_ble_eq_true rfl⟩ rfl (fun κ hl hD hB hT X htab hin => ?_)
  subst hl hD hB hT
  have X : jX κ RX11 cX11_shownLast 3 (some .int) := X
  unfold f_X11_shownLast
  refine j_aload_n X 0 rfl dX11_shownLast_0 rfl ?_
  refine j_iload_n X 1 rfl dX11_shownLast_1 rfl ?_
  refine j_call0S X 0 0 (c_X11_isPerson X.tr (memG 358 387 (kD κ) (kB κ) S X9) z p1) me_X11_isPerson ml_X11_103 st_X11_isPerson dX11_shownLast_2 (rest := [.ref (kB κ + 358)]) rfl rfl (by decide) (by decide) (Nat.le_of_ble_eq_true rfl) (fun v1 u18 M17 hM16 => ?_)
  subst M17
  refine j_st (st1 := [.int v1, .ref (kB κ + 358)]) rfl ?_
  refine j_join (fun k2 => ∀ (x8 : Int32), J κ 3 rm_X11_shownLast (jQf κ rm_X11_shownLast rvI (fun S9 M9 => M9 = memG 358 387 (kD κ) (kB κ) S9 X9) z) (k2 x8) (memG 358 387 (kD κ) (kB κ) S X9) z 0 0 [(0, .ref (kB κ + 358)), (1, .int p1), (2, .int p2)] 20 [.int x8, .ref (kB κ + 358)]) ?_ (fun k2 hk2 => ?_)
  · intro x8
    refine j_call0V X 0 0 (c_X11_goesWell X.tr S X9 z x8) me_X11_goesWell ml_X11_107 iv_X11_goesWell cf_X11 dX11_shownLast_20 (memG_at kf_358) (rest := []) rfl rfl (by decide) (by decide) (Nat.le_of_ble_eq_true rfl) (fun v9 S10 M15 hM14 => ?_)
    subst M15
    refine j_st (st1 := [.int v9]) rfl ?_
    refine j_join (fun k11 => ∀ (x13 : Int32), J κ 3 rm_X11_shownLast (jQf κ rm_X11_shownLast rvI (fun S9 M9 => M9 = memG 358 387 (kD κ) (kB κ) S9 X9) z) (k11 x13) (memG 358 387 (kD κ) (kB κ) S10 X9) z 0 0 [] 43 [.int x13]) ?_ (fun k11 hk11 => ?_)
    · intro x13
      exact j_iret X dX11_shownLast_43 rfl (fun _ h => h)
    · refine j_if_eq X 42 dX11_shownLast_23 (by decide) ?_ ?_
      · refine j_iconst X (0 : Int32) dX11_shownLast_42 (by rfl) ?_
        refine j_lv [] rfl ?_
        exact hk11 (0 : Int32)
      · refine j_aload_n X 0 rfl dX11_shownLast_26 rfl ?_
        refine g_getf X 29 kf_358 cf_X11 (by decide) fl_X11_92 dX11_shownLast_27 rfl rfl ?_
        refine j_bipush X (8 : Int32) dX11_shownLast_30 (by rfl) ?_
        refine j_iload_n X 1 rfl dX11_shownLast_32 rfl ?_
        refine j_imul X dX11_shownLast_33 ?_
        refine j_iload_n X 2 rfl dX11_shownLast_34 rfl ?_
        refine j_iadd X dX11_shownLast_35 ?_
        refine g_iald X 160 kf_386 (by decide) dX11_shownLast_36 (fun h12 => ?_)
        refine j_iconst X (1 : Int32) dX11_shownLast_37 (by rfl) ?_
        refine j_isub X dX11_shownLast_38 ?_
        refine j_goto X 43 dX11_shownLast_39 (by decide) ?_
        refine j_lv [] rfl ?_
        exact hk11 (((S10 386 ((((8 : Int32) * p1) + p2)).toNatClampNeg) - (1 : Int32)))
  · refine j_join (fun k3 => ∀ (_ : Unit), J κ 3 rm_X11_shownLast (jQf κ rm_X11_shownLast rvI (fun S9 M9 => M9 = memG 358 387 (kD κ) (kB κ) S9 X9) z) (k3 ()) (memG 358 387 (kD κ) (kB κ) S X9) z 0 0 [(0, .ref (kB κ + 358)), (1, .int p1), (2, .int p2)] 19 [.ref (kB κ + 358)]) ?_ (fun k3 hk3 => ?_)
    · intro _
      refine j_iconst X (1 : Int32) dX11_shownLast_19 (by rfl) ?_
      exact hk2 (1 : Int32)
    · refine j_if_eq X 19 dX11_shownLast_5 (by decide) ?_ ?_
      · exact hk3 ()
      · refine j_iload_n X 2 rfl dX11_shownLast_8 rfl ?_
        refine j_call0S X 0 0 (c_X11_isFlag X.tr (memG 358 387 (kD κ) (kB κ) S X9) z p2) me_X11_isFlag ml_X11_167 st_X11_isFlag dX11_shownLast_9 (rest := [.ref (kB κ + 358)]) rfl rfl (by decide) (by decide) (Nat.le_of_ble_eq_true rfl) (fun v4 u7 M6 hM5 => ?_)
        subst M6
        refine j_st (st1 := [.int v4, .ref (kB κ + 358)]) rfl ?_
        refine j_if_eq X 19 dX11_shownLast_12 (by decide) ?_ ?_
        · exact hk3 ()
        · refine j_iconst X (0 : Int32) dX11_shownLast_15 (by rfl) ?_
          refine j_goto X 20 dX11_shownLast_16 (by decide) ?_
          exact hk2 (0 : Int32)
end GEN
