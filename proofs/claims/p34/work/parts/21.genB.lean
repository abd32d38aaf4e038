section GEN
def f_X8_append (S : jS) (b0 : Nat) (p1 : Int32) : Option (jR jS) := joinK (fun (S5 : jS) => some (0, (0 : Int32), S5)) (fun k1 => (if (60 : Int32) ≤ (S b0 1) then k1 S else chk (inb (S b0 1) 60) (letE (jset S (b0 + 1) (S b0 1).toNatClampNeg (vp_nar .char ((p1.toUInt32 % 65536).toInt32))) fun S2 => letE (jset S2 b0 1 (((S2 b0 1) + (1 : Int32)))) fun S3 => k1 S3)))
abbrev rm_X8_append : Room := { frames := 0, cells := 0, slots := 0, locals := 0 }
set_option maxHeartbeats 4000000 in
set_option maxRecDepth 100000 in
theorem c_X8_append {l : Launch} {D : va_G} {B t0 : Nat} (hl9 : l.stackTraces = false) (S : jS) (X9 : jMem) (z : Nat → Prop) (b0 : Nat) (hb0 : isText b0) (p1 : Int32) : jCf l D B t0 yX8_append cX8_append 2 none rm_X8_append [.ref (B + b0), .int p1] (memG 0 358 D B S X9) z (f_X8_append S b0 p1) rvV (fun S9 M9 => M9 = memG 0 358 D B S9 X9) z := by
  refine jC_of hl9 (me_X8_append).1 [(0, .ref (B + b0)), (1, .int p1)] ⟨by decide +kernel, Nat.le_of_ble_eq_true rfl⟩ rfl (fun κ hl hD hB hT X htab hin => ?_)
  subst hl hD hB hT
  have X : jX κ RX8 cX8_append 2 none := X
  unfold f_X8_append
  refine j_aload_n X 0 rfl dX8_append_0 rfl ?_
  refine g_getf X 1 (kText hb0).1 cf_X8 (by decide) fl_X8_15 dX8_append_1 rfl rfl ?_
  refine j_bipush X (60 : Int32) dX8_append_4 (by rfl) ?_
  refine j_join (fun k1 => ∀ (S5 : jS), J κ 2 rm_X8_append (jQf κ rm_X8_append rvV (fun S9 M9 => M9 = memG 0 358 (kD κ) (kB κ) S9 X9) z) (k1 S5) (memG 0 358 (kD κ) (kB κ) S5 X9) z 0 0 [] 30 []) ?_ (fun k1 hk1 => ?_)
  · intro S5
    exact j_vret X dX8_append_30 rfl (fun _ h => h)
  · refine j_icmp_ge X 30 dX8_append_6 (by decide) ?_ ?_
    · refine j_lv [] rfl ?_
      exact hk1 S
    · refine j_aload_n X 0 rfl dX8_append_9 rfl ?_
      refine g_getf X 0 (kText hb0).1 cf_X8 (by decide) fl_X8_9 dX8_append_10 rfl rfl ?_
      refine j_aload_n X 0 rfl dX8_append_13 rfl ?_
      refine g_getf X 1 (kText hb0).1 cf_X8 (by decide) fl_X8_15 dX8_append_14 rfl rfl ?_
      refine j_iload_n X 1 rfl dX8_append_17 rfl ?_
      refine j_i2c X dX8_append_18 ?_
      refine g_cast X 60 (kText hb0).2 (by decide) dX8_append_19 (fun h4 S2 => ?_)
      refine j_aload_n X 0 rfl dX8_append_20 rfl ?_
      refine j_dup X dX8_append_21 rfl ?_
      refine g_getf X 1 (kText hb0).1 cf_X8 (by decide) fl_X8_15 dX8_append_22 rfl rfl ?_
      refine j_iconst X (1 : Int32) dX8_append_25 (by rfl) ?_
      refine j_iadd X dX8_append_26 ?_
      refine g_putf X 1 (kText hb0).1 cf_X8 (by decide) fl_X8_15 dX8_append_27 rfl rfl rfl rfl (Nat.le_of_ble_eq_true rfl) rfl (fun S3 => ?_)
      refine j_lv [] rfl ?_
      exact hk1 S3
def f_X9_share (S : jS) (b0 : Nat) (p1 : Int32) (p2 : Int32) (p3 : Int32) (p4 : Int32) : Option (jR jS) := chk (inb (0 : Int32) 4) (letE (jset S (b0 + 1) (0 : Int32).toNatClampNeg p1) fun S1 => chk (inb (1 : Int32) 4) (letE (jset S1 (b0 + 1) (1 : Int32).toNatClampNeg p2) fun S2 => chk (inb (2 : Int32) 4) (letE (jset S2 (b0 + 1) (2 : Int32).toNatClampNeg p3) fun S3 => chk (inb (3 : Int32) 4) (letE (jset S3 (b0 + 1) (3 : Int32).toNatClampNeg p4) fun S4 => some (0, (0 : Int32), S4)))))
abbrev rm_X9_share : Room := { frames := 0, cells := 0, slots := 0, locals := 0 }
set_option maxHeartbeats 4000000 in
set_option maxRecDepth 100000 in
theorem c_X9_share {l : Launch} {D : va_G} {B t0 : Nat} (hl9 : l.stackTraces = false) (S : jS) (X9 : jMem) (z : Nat → Prop) (b0 : Nat) (hb0 : isTrial b0) (p1 : Int32) (p2 : Int32) (p3 : Int32) (p4 : Int32) : jCf l D B t0 yX9_share cX9_share 5 none rm_X9_share [.ref (B + b0), .int p1, .int p2, .int p3, .int p4] (memG 0 358 D B S X9) z (f_X9_share S b0 p1 p2 p3 p4) rvV (fun S9 M9 => M9 = memG 0 358 D B S9 X9) z := by
  refine jC_of hl9 (me_X9_share).1 [(0, .ref (B + b0)), (1, .int p1), (2, .int p2), (3, .int p3), (4, .int p4)] ⟨by decide +kernel, Nat.le_of_ble_eq_true rfl⟩ rfl (fun κ hl hD hB hT X htab hin => ?_)
  subst hl hD hB hT
  have X : jX κ RX9 cX9_share 5 none := X
  unfold f_X9_share
  refine j_aload_n X 0 rfl dX9_share_0 rfl ?_
  refine g_getf X 0 (kTrial hb0).1 cf_X9 (by decide) fl_X9_9 dX9_share_1 rfl rfl ?_
  refine j_iconst X (0 : Int32) dX9_share_4 (by rfl) ?_
  refine j_iload_n X 1 rfl dX9_share_5 rfl ?_
  refine g_iast X 4 (kTrial hb0).2 (by decide) dX9_share_6 (fun h8 S1 => ?_)
  refine j_aload_n X 0 rfl dX9_share_7 rfl ?_
  refine g_getf X 0 (kTrial hb0).1 cf_X9 (by decide) fl_X9_9 dX9_share_8 rfl rfl ?_
  refine j_iconst X (1 : Int32) dX9_share_11 (by rfl) ?_
  refine j_iload_n X 2 rfl dX9_share_12 rfl ?_
  refine g_iast X 4 (kTrial hb0).2 (by decide) dX9_share_13 (fun h7 S2 => ?_)
  refine j_aload_n X 0 rfl dX9_share_14 rfl ?_
  refine g_getf X 0 (kTrial hb0).1 cf_X9 (by decide) fl_X9_9 dX9_share_15 rfl rfl ?_
  refine j_iconst X (2 : Int32) dX9_share_18 (by rfl) ?_
  refine j_iload_n X 3 rfl dX9_share_19 rfl ?_
  refine g_iast X 4 (kTrial hb0).2 (by decide) dX9_share_20 (fun h6 S3 => ?_)
  refine j_aload_n X 0 rfl dX9_share_21 rfl ?_
  refine g_getf X 0 (kTrial hb0).1 cf_X9 (by decide) fl_X9_9 dX9_share_22 rfl rfl ?_
  refine j_iconst X (3 : Int32) dX9_share_25 (by rfl) ?_
  refine j_iload X 4 rfl dX9_share_26 ?_
  refine g_iast X 4 (kTrial hb0).2 (by decide) dX9_share_28 (fun h5 S4 => ?_)
  exact j_vret X dX9_share_29 rfl (fun _ h => h)
def f_X9_sumOfShares (S : jS) (b0 : Nat) : Option (jR Unit) := letE (Int32.ofNat 4) fun x1 => loopK (fun (rec2 : Int32 → Int32 → Option (jR Unit)) (x3 : Int32) (x4 : Int32) => (if x1 ≤ x4 then some (0, x3, ()) else chk (inb x4 4) (letE ((S (b0 + 1) x4.toNatClampNeg)) fun x5 => letE (x3 + x5) fun x6 => letE (x4 + (1 : Int32)) fun x7 => rec2 x6 x7))) (fun _ _ => none) 1000 (0 : Int32) (0 : Int32)
abbrev rm_X9_sumOfShares : Room := { frames := 0, cells := 0, slots := 0, locals := 0 }
set_option maxHeartbeats 4000000 in
set_option maxRecDepth 100000 in
theorem c_X9_sumOfShares {l : Launch} {D : va_G} {B t0 : Nat} (hl9 : l.stackTraces = false) (S : jS) (X9 : jMem) (z : Nat → Prop) (b0 : Nat) (hb0 : isTrial b0) : jCf l D B t0 yX9_sumOfShares cX9_sumOfShares 6 (some .int) rm_X9_sumOfShares [.ref (B + b0)] (memG 0 358 D B S X9) z (f_X9_sumOfShares S b0) rvI (fun (S9 : Unit) M9 => M9 = memG 0 358 D B S X9) z := by
  refine jC_of hl9 (me_X9_sumOfShares).1 [(0, .ref (B + b0))] ⟨by decide +kernel, Nat.le_of_ble_eq_true rfl⟩ rfl (fun κ hl hD hB hT X htab hin => ?_)
  subst hl hD hB hT
  have X : jX κ RX9 cX9_sumOfShares 6 (some .int) := X
  unfold f_X9_sumOfShares
  refine j_iconst X (0 : Int32) dX9_sumOfShares_0 (by rfl) ?_
  refine j_istore_n X [(1, .int (0 : Int32)), (0, .ref (kB κ + b0))] dX9_sumOfShares_1 rfl (by decide) rfl ?_
  refine j_aload_n X 1 rfl dX9_sumOfShares_2 rfl ?_
  refine g_getf X 0 (kTrial hb0).1 cf_X9 (by decide) fl_X9_9 dX9_sumOfShares_3 rfl rfl ?_
  refine j_astore_n X [(2, .ref (kB κ + (b0 + 1))), (1, .int (0 : Int32)), (0, .ref (kB κ + b0))] dX9_sumOfShares_6 rfl (by decide) rfl ?_
  refine j_aload_n X 0 rfl dX9_sumOfShares_7 rfl ?_
  refine j_alen X 0 rfl rfl dX9_sumOfShares_8 ((memG_at (kTrial hb0).2).trans (congrArg some (cellK_i (n := 4) (by decide) _))) ?_
  refine j_letE (fun x1 => ?_)
  refine j_istore_n X [(3, .int x1), (2, .ref (kB κ + (b0 + 1))), (1, .int (0 : Int32)), (0, .ref (kB κ + b0))] dX9_sumOfShares_9 rfl (by decide) rfl ?_
  refine j_iconst X (0 : Int32) dX9_sumOfShares_10 (by rfl) ?_
  refine j_istore X [(4, .int (0 : Int32)), (3, .int x1), (2, .ref (kB κ + (b0 + 1))), (1, .int (0 : Int32)), (0, .ref (kB κ + b0))] dX9_sumOfShares_11 (by decide) rfl ?_
  refine j_lv [3, 2, 1, 0] rfl ?_
  refine j_loop (fun (k : Int32 → Int32 → Option (jR Unit)) => ∀ (x3 : Int32) (x4 : Int32), J κ 6 rm_X9_sumOfShares (jQf κ rm_X9_sumOfShares rvI (fun (S9 : Unit) M9 => M9 = memG 0 358 (kD κ) (kB κ) S X9) z) (k x3 x4) (memG 0 358 (kD κ) (kB κ) S X9) z 0 0 [(1, .int x3), (2, .ref (kB κ + (b0 + 1))), (3, .int x1), (4, .int x4)] 13 []) (fun _ _ => j_none) (fun rec2 hrec2 => ?_) 1000 _ _
  intro x3 x4
  refine j_iload X 3 rfl dX9_sumOfShares_13 ?_
  refine j_iload_n X 2 rfl dX9_sumOfShares_15 rfl ?_
  refine j_icmp_ge X 36 dX9_sumOfShares_16 (by decide) ?_ ?_
  · refine j_iload_n X 0 rfl dX9_sumOfShares_36 rfl ?_
    exact j_iret X dX9_sumOfShares_37 rfl (fun _ h => h)
  · refine j_aload_n X 1 rfl dX9_sumOfShares_19 rfl ?_
    refine j_iload X 3 rfl dX9_sumOfShares_20 ?_
    refine g_iald X 4 (kTrial hb0).2 (by decide) dX9_sumOfShares_22 (fun h8 => ?_)
    refine j_letE (fun x5 => ?_)
    refine j_istore X [(5, .int x5), (1, .int x3), (2, .ref (kB κ + (b0 + 1))), (3, .int x1), (4, .int x4)] dX9_sumOfShares_23 (by decide) rfl ?_
    refine j_iload_n X 1 rfl dX9_sumOfShares_25 rfl ?_
    refine j_iload X 0 rfl dX9_sumOfShares_26 ?_
    refine j_iadd X dX9_sumOfShares_28 ?_
    refine j_letE (fun x6 => ?_)
    refine j_istore_n X [(1, .int x6), (5, .int x5), (2, .ref (kB κ + (b0 + 1))), (3, .int x1), (4, .int x4)] dX9_sumOfShares_29 rfl (by decide) rfl ?_
    refine j_iincL X 4 (fun x7 => [(4, .int x7), (1, .int x6), (5, .int x5), (2, .ref (kB κ + (b0 + 1))), (3, .int x1)]) dX9_sumOfShares_30 rfl (by rfl) (by decide) (fun _ => rfl) (fun x7 => ?_)
    refine j_goto X 13 dX9_sumOfShares_33 (by decide) ?_
    refine j_lv [1, 3, 4, 0] rfl ?_
    exact hrec2 x6 x7
def f_X9_drawArm (S : jS) (b0 : Nat) (p1 : Int32) : Option (jR Unit) := jbin0 (f_X9_sumOfShares S b0) (fun v1 _ => (if (0 : Int32) < v1 then chk (!decide (v1 = 0)) (letE (((((((7919 : Int32) * p1) + ((104729 : Int32) * (S b0 1))) + (13 : Int32)) - ((((7919 : Int32) * p1) + ((104729 : Int32) * (S b0 1))) + (13 : Int32)) / (1000003 : Int32) * (1000003 : Int32)) - (((((7919 : Int32) * p1) + ((104729 : Int32) * (S b0 1))) + (13 : Int32)) - ((((7919 : Int32) * p1) + ((104729 : Int32) * (S b0 1))) + (13 : Int32)) / (1000003 : Int32) * (1000003 : Int32)) / v1 * v1)) fun x2 => chk (inb (0 : Int32) 4) (letE ((S (b0 + 1) (0 : Int32).toNatClampNeg)) fun x3 => loopK (fun (rec4 : Int32 → Int32 → Option (jR Unit)) (x5 : Int32) (x6 : Int32) => joinK (fun (_ : Unit) => some (0, x5, ())) (fun k7 => (if x2 < x6 then k7 () else (if (3 : Int32) ≤ x5 then k7 () else letE (x5 + (1 : Int32)) fun x8 => chk (inb x8 4) (letE ((x6 + (S (b0 + 1) x8.toNatClampNeg))) fun x9 => rec4 x8 x9))))) (fun _ _ => none) 1000 (0 : Int32) x3)) else some (0, (0 : Int32), ())))
abbrev rm_X9_drawArm : Room := { frames := 1, cells := 0, slots := 0, locals := 25 }
set_option maxHeartbeats 4000000 in
set_option maxRecDepth 100000 in
theorem c_X9_drawArm {l : Launch} {D : va_G} {B t0 : Nat} (hl9 : l.stackTraces = false) (S : jS) (X9 : jMem) (z : Nat → Prop) (b0 : Nat) (hb0 : isTrial b0) (p1 : Int32) : jCf l D B t0 yX9_drawArm cX9_drawArm 6 (some .int) rm_X9_drawArm [.ref (B + b0), .int p1] (memG 0 358 D B S X9) z (f_X9_drawArm S b0 p1) rvI (fun (S9 : Unit) M9 => M9 = memG 0 358 D B S X9) z := by
  refine jC_of hl9 (me_X9_drawArm).1 [(0, .ref (B + b0)), (1, .int p1)] ⟨by decide +kernel, Nat.le_of_ble_eq_true rfl⟩ rfl (fun κ hl hD hB hT X htab hin => ?_)
  subst hl hD hB hT
  have X : jX κ RX9 cX9_drawArm 6 (some .int) := X
  unfold f_X9_drawArm
  refine j_aload_n X 0 rfl dX9_drawArm_0 rfl ?_
  refine j_call0V X 0 0 (c_X9_sumOfShares X.tr S X9 z b0 hb0) me_X9_sumOfShares ml_X9_23 iv_X9_sumOfShares cf_X9 dX9_drawArm_1 (memG_at (kTrial hb0).1) (rest := []) rfl rfl (by decide) (by decide) (Nat.le_of_ble_eq_true rfl) (fun v1 u14 M13 hM12 => ?_)
  subst M13
  refine j_st (st1 := [.int v1]) rfl ?_
  refine j_istore_n X [(2, .int v1), (0, .ref (kB κ + b0)), (1, .int p1)] dX9_drawArm_4 rfl (by decide) rfl ?_
  refine j_iload_n X 0 rfl dX9_drawArm_5 rfl ?_
  refine j_if_gt X 11 dX9_drawArm_6 (by decide) ?_ ?_
  · refine j_sipush X (7919 : Int32) dX9_drawArm_11 (by rfl) ?_
    refine j_iload_n X 2 rfl dX9_drawArm_14 rfl ?_
    refine j_imul X dX9_drawArm_15 ?_
    refine j_ldc X kc_X9_27 dX9_drawArm_16 ?_
    refine j_aload_n X 1 rfl dX9_drawArm_18 rfl ?_
    refine g_getf X 1 (kTrial hb0).1 cf_X9 (by decide) fl_X9_28 dX9_drawArm_19 rfl rfl ?_
    refine j_imul X dX9_drawArm_22 ?_
    refine j_iadd X dX9_drawArm_23 ?_
    refine j_bipush X (13 : Int32) dX9_drawArm_24 (by rfl) ?_
    refine j_iadd X dX9_drawArm_26 ?_
    refine j_ldc X kc_X9_31 dX9_drawArm_27 ?_
    refine j_irem X (by decide) dX9_drawArm_29 ?_
    refine j_iload_n X 0 rfl dX9_drawArm_30 rfl ?_
    refine j_chk (fun hne => ?_)
    refine j_irem X (by simpa using hne) dX9_drawArm_31 ?_
    refine j_letE (fun x2 => ?_)
    refine j_istore_n X [(3, .int x2), (2, .int v1), (0, .ref (kB κ + b0)), (1, .int p1)] dX9_drawArm_32 rfl (by decide) rfl ?_
    refine j_iconst X (0 : Int32) dX9_drawArm_33 (by rfl) ?_
    refine j_istore X [(4, .int (0 : Int32)), (3, .int x2), (2, .int v1), (0, .ref (kB κ + b0)), (1, .int p1)] dX9_drawArm_34 (by decide) rfl ?_
    refine j_aload_n X 3 rfl dX9_drawArm_36 rfl ?_
    refine g_getf X 0 (kTrial hb0).1 cf_X9 (by decide) fl_X9_9 dX9_drawArm_37 rfl rfl ?_
    refine j_iconst X (0 : Int32) dX9_drawArm_40 (by rfl) ?_
    refine g_iald X 4 (kTrial hb0).2 (by decide) dX9_drawArm_41 (fun h11 => ?_)
    refine j_letE (fun x3 => ?_)
    refine j_istore X [(5, .int x3), (4, .int (0 : Int32)), (3, .int x2), (2, .int v1), (0, .ref (kB κ + b0)), (1, .int p1)] dX9_drawArm_42 (by decide) rfl ?_
    refine j_lv [4, 2, 1, 0] rfl ?_
    refine j_loop (fun (k : Int32 → Int32 → Option (jR Unit)) => ∀ (x5 : Int32) (x6 : Int32), J κ 6 rm_X9_drawArm (jQf κ rm_X9_drawArm rvI (fun (S9 : Unit) M9 => M9 = memG 0 358 (kD κ) (kB κ) S X9) z) (k x5 x6) (memG 0 358 (kD κ) (kB κ) S X9) z 0 0 [(0, .ref (kB κ + b0)), (3, .int x2), (4, .int x5), (5, .int x6)] 44 []) (fun _ _ => j_none) (fun rec4 hrec4 => ?_) 1000 _ _
    intro x5 x6
    refine j_iload X 3 rfl dX9_drawArm_44 ?_
    refine j_iload_n X 1 rfl dX9_drawArm_46 rfl ?_
    refine j_join (fun k7 => ∀ (_ : Unit), J κ 6 rm_X9_drawArm (jQf κ rm_X9_drawArm rvI (fun (S9 : Unit) M9 => M9 = memG 0 358 (kD κ) (kB κ) S X9) z) (k7 ()) (memG 0 358 (kD κ) (kB κ) S X9) z 0 0 [(4, .int x5)] 74 []) ?_ (fun k7 hk7 => ?_)
    · intro _
      refine j_iload X 0 rfl dX9_drawArm_74 ?_
      exact j_iret X dX9_drawArm_76 rfl (fun _ h => h)
    · refine j_icmp_gt X 74 dX9_drawArm_47 (by decide) ?_ ?_
      · refine j_lv [2] rfl ?_
        exact hk7 ()
      · refine j_iload X 2 rfl dX9_drawArm_50 ?_
        refine j_iconst X (3 : Int32) dX9_drawArm_52 (by rfl) ?_
        refine j_icmp_ge X 74 dX9_drawArm_53 (by decide) ?_ ?_
        · refine j_lv [2] rfl ?_
          exact hk7 ()
        · refine j_iincL X 2 (fun x8 => [(4, .int x8), (0, .ref (kB κ + b0)), (3, .int x2), (5, .int x6)]) dX9_drawArm_56 rfl (by rfl) (by decide) (fun _ => rfl) (fun x8 => ?_)
          refine j_iload X 3 rfl dX9_drawArm_59 ?_
          refine j_aload_n X 1 rfl dX9_drawArm_61 rfl ?_
          refine g_getf X 0 (kTrial hb0).1 cf_X9 (by decide) fl_X9_9 dX9_drawArm_62 rfl rfl ?_
          refine j_iload X 0 rfl dX9_drawArm_65 ?_
          refine g_iald X 4 (kTrial hb0).2 (by decide) dX9_drawArm_67 (fun h10 => ?_)
          refine j_iadd X dX9_drawArm_68 ?_
          refine j_letE (fun x9 => ?_)
          refine j_istore X [(5, .int x9), (4, .int x8), (0, .ref (kB κ + b0)), (3, .int x2)] dX9_drawArm_69 (by decide) rfl ?_
          refine j_goto X 44 dX9_drawArm_71 (by decide) ?_
          refine j_lv [2, 3, 1, 0] rfl ?_
          exact hrec4 x8 x9
  · refine j_iconst X (0 : Int32) dX9_drawArm_9 (by rfl) ?_
    exact j_iret X dX9_drawArm_10 rfl (fun _ h => h)
def f_X9_armFor (S : jS) (b0 : Nat) (p1 : Int32) (p2 : Int32) : Option (jR Unit) := (if (S b0 2) = (-1 : Int32) then joinK (fun (x6 : Int32) => some (0, x6, ())) (fun k1 => (if p2 = (-1 : Int32) then jbin0 (f_X9_drawArm S b0 p1) (fun v2 _ => k1 v2) else k1 p2)) else some (0, (S b0 2), ()))
abbrev rm_X9_armFor : Room := { frames := 2, cells := 0, slots := 0, locals := 50 }
set_option maxHeartbeats 4000000 in
set_option maxRecDepth 100000 in
theorem c_X9_armFor {l : Launch} {D : va_G} {B t0 : Nat} (hl9 : l.stackTraces = false) (S : jS) (X9 : jMem) (z : Nat → Prop) (b0 : Nat) (hb0 : isTrial b0) (p1 : Int32) (p2 : Int32) : jCf l D B t0 yX9_armFor cX9_armFor 3 (some .int) rm_X9_armFor [.ref (B + b0), .int p1, .int p2] (memG 0 358 D B S X9) z (f_X9_armFor S b0 p1 p2) rvI (fun (S9 : Unit) M9 => M9 = memG 0 358 D B S X9) z := by
  refine jC_of hl9 (me_X9_armFor).1 [(0, .ref (B + b0)), (1, .int p1), (2, .int p2)] ⟨by decide +kernel, Nat.le_of_ble_eq_true rfl⟩ rfl (fun κ hl hD hB hT X htab hin => ?_)
  subst hl hD hB hT
  have X : jX κ RX9 cX9_armFor 3 (some .int) := X
  unfold f_X9_armFor
  refine j_aload_n X 0 rfl dX9_armFor_0 rfl ?_
  refine g_getf X 2 (kTrial hb0).1 cf_X9 (by decide) fl_X9_15 dX9_armFor_1 rfl rfl ?_
  refine j_iconst X (-1 : Int32) dX9_armFor_4 (by rfl) ?_
  refine j_icmp_eq X 13 dX9_armFor_5 (by decide) ?_ ?_
  · refine j_iload_n X 2 rfl dX9_armFor_13 rfl ?_
    refine j_iconst X (-1 : Int32) dX9_armFor_14 (by rfl) ?_
    refine j_join (fun k1 => ∀ (x6 : Int32), J κ 3 rm_X9_armFor (jQf κ rm_X9_armFor rvI (fun (S9 : Unit) M9 => M9 = memG 0 358 (kD κ) (kB κ) S X9) z) (k1 x6) (memG 0 358 (kD κ) (kB κ) S X9) z 0 0 [] 27 [.int x6]) ?_ (fun k1 hk1 => ?_)
    · intro x6
      exact j_iret X dX9_armFor_27 rfl (fun _ h => h)
    · refine j_icmp_eq X 22 dX9_armFor_15 (by decide) ?_ ?_
      · refine j_aload_n X 0 rfl dX9_armFor_22 rfl ?_
        refine j_iload_n X 1 rfl dX9_armFor_23 rfl ?_
        refine j_call0V X 0 0 (c_X9_drawArm X.tr S X9 z b0 hb0 p1) me_X9_drawArm ml_X9_19 iv_X9_drawArm cf_X9 dX9_armFor_24 (memG_at (kTrial hb0).1) (rest := []) rfl rfl (by decide) (by decide) (Nat.le_of_ble_eq_true rfl) (fun v2 u5 M4 hM3 => ?_)
        subst M4
        refine j_st (st1 := [.int v2]) rfl ?_
        refine j_lv [] rfl ?_
        exact hk1 v2
      · refine j_iload_n X 2 rfl dX9_armFor_18 rfl ?_
        refine j_goto X 27 dX9_armFor_19 (by decide) ?_
        refine j_lv [] rfl ?_
        exact hk1 p2
  · refine j_aload_n X 0 rfl dX9_armFor_8 rfl ?_
    refine g_getf X 2 (kTrial hb0).1 cf_X9 (by decide) fl_X9_15 dX9_armFor_9 rfl rfl ?_
    exact j_iret X dX9_armFor_12 rfl (fun _ h => h)
def f_X10_checkRange (p0 : Int32) (p1 : Int32) (p2 : Int32) : Option (jR Unit) := joinK (fun (_ : Unit) => some (1, (0 : Int32), ())) (fun k1 => (if p0 < p1 then k1 () else (if p0 ≤ p2 then some (0, (0 : Int32), ()) else k1 ())))
abbrev rm_X10_checkRange : Room := { frames := 6, cells := 1, slots := 6, locals := 90 }
set_option maxHeartbeats 4000000 in
set_option maxRecDepth 100000 in
theorem c_X10_checkRange {l : Launch} {D : va_G} {B t0 : Nat} (hl9 : l.stackTraces = false) (M : jMem) (z : Nat → Prop) (p0 : Int32) (p1 : Int32) (p2 : Int32) : jCf l D B t0 yX10_checkRange cX10_checkRange 3 none rm_X10_checkRange [.int p0, .int p1, .int p2] M z (f_X10_checkRange p0 p1 p2) rvV (fun (S9 : Unit) M9 => M9 = M) z := by
  refine jC_of hl9 (me_X10_checkRange).1 [(0, .int p0), (1, .int p1), (2, .int p2)] ⟨by decide +kernel, Nat.le_of_ble_eq_true rfl⟩ rfl (fun κ hl hD hB hT X htab hin => ?_)
  subst hl hD hB hT
  have X : jX κ RX10 cX10_checkRange 3 none := X
  unfold f_X10_checkRange
  refine j_iload_n X 0 rfl dX10_checkRange_0 rfl ?_
  refine j_iload_n X 1 rfl dX10_checkRange_1 rfl ?_
  refine j_join (fun k1 => ∀ (_ : Unit), J κ 3 rm_X10_checkRange (jQf κ rm_X10_checkRange rvV (fun (S9 : Unit) M9 => M9 = M) z) (k1 ()) M z 1 6 [] 10 []) ?_ (fun k1 hk1 => ?_)
  · intro _
    exact j_throwW X th_X10_1_124_128 sr_X10_303 htab dX10_checkRange_10 dX10_checkRange_13 dX10_checkRange_14 dX10_checkRange_17 dX10_checkRange_20 (by decide) (by decide) rfl
  · refine j_icmp_lt X 10 dX10_checkRange_2 (by decide) ?_ ?_
    · refine j_lv [] rfl ?_
      exact hk1 ()
    · refine j_iload_n X 0 rfl dX10_checkRange_5 rfl ?_
      refine j_iload_n X 2 rfl dX10_checkRange_6 rfl ?_
      refine j_icmp_le X 21 dX10_checkRange_7 (by decide) ?_ ?_
      · exact j_vret X dX10_checkRange_21 rfl (fun _ h => h)
      · refine j_lv [] rfl ?_
        exact hk1 ()
def f_X10_checkPerson (p0 : Int32) : Option (jR Unit) := jbind (f_X10_checkRange p0 (0 : Int32) (19 : Int32)) (fun _ _ => some (0, (0 : Int32), ())) (fun t _ => some (t, (0 : Int32), ()))
abbrev rm_X10_checkPerson : Room := { frames := 7, cells := 1, slots := 6, locals := 112 }
set_option maxHeartbeats 4000000 in
set_option maxRecDepth 100000 in
theorem c_X10_checkPerson {l : Launch} {D : va_G} {B t0 : Nat} (hl9 : l.stackTraces = false) (M : jMem) (z : Nat → Prop) (p0 : Int32) : jCf l D B t0 yX10_checkPerson cX10_checkPerson 1 none rm_X10_checkPerson [.int p0] M z (f_X10_checkPerson p0) rvV (fun (S9 : Unit) M9 => M9 = M) z := by
  refine jC_of hl9 (me_X10_checkPerson).1 [(0, .int p0)] ⟨by decide +kernel, Nat.le_of_ble_eq_true rfl⟩ rfl (fun κ hl hD hB hT X htab hin => ?_)
  subst hl hD hB hT
  have X : jX κ RX10 cX10_checkPerson 1 none := X
  unfold f_X10_checkPerson
  refine j_iload_n X 0 rfl dX10_checkPerson_0 rfl ?_
  refine j_iconst X (0 : Int32) dX10_checkPerson_1 (by rfl) ?_
  refine j_bipush X (19 : Int32) dX10_checkPerson_2 (by rfl) ?_
  refine j_callS X 0 0 (c_X10_checkRange X.tr M z p0 (0 : Int32) (19 : Int32)) me_X10_checkRange ml_X10_74 st_X10_checkRange htab dX10_checkPerson_4 (rest := []) rfl rfl (by decide) (by decide) (Nat.le_of_ble_eq_true rfl) (fun t S9 M9 r9 hp9 hr9 => by cases hr9; exact ⟨rfl, hp9⟩) (fun v3 u4 M2 hM1 => ?_)
  subst M2
  refine j_st (st1 := []) rfl ?_
  exact j_vret X dX10_checkPerson_7 rfl (fun _ h => h)
def f_X10_mostOf (p0 : Int32) : Option (jR Unit) := joinK (fun (x2 : Int32) => some (0, x2, ())) (fun k1 => (if p0 = (0 : Int32) then k1 (9 : Int32) else (if p0 = (1 : Int32) then k1 (99 : Int32) else k1 (3 : Int32))))
abbrev rm_X10_mostOf : Room := { frames := 0, cells := 0, slots := 0, locals := 0 }
set_option maxHeartbeats 4000000 in
set_option maxRecDepth 100000 in
theorem c_X10_mostOf {l : Launch} {D : va_G} {B t0 : Nat} (hl9 : l.stackTraces = false) (M : jMem) (z : Nat → Prop) (p0 : Int32) : jCf l D B t0 yX10_mostOf cX10_mostOf 1 (some .int) rm_X10_mostOf [.int p0] M z (f_X10_mostOf p0) rvI (fun (S9 : Unit) M9 => M9 = M) z := by
  refine jC_of hl9 (me_X10_mostOf).1 [(0, .int p0)] ⟨by decide +kernel, Nat.le_of_ble_eq_true rfl⟩ rfl (fun κ hl hD hB hT X htab hin => ?_)
  subst hl hD hB hT
  have X : jX κ RX10 cX10_mostOf 1 (some .int) := X
  unfold f_X10_mostOf
  refine j_iload_n X 0 rfl dX10_mostOf_0 rfl ?_
  refine j_join (fun k1 => ∀ (x2 : Int32), J κ 1 rm_X10_mostOf (jQf κ rm_X10_mostOf rvI (fun (S9 : Unit) M9 => M9 = M) z) (k1 x2) M z 0 0 [] 20 [.int x2]) ?_ (fun k1 hk1 => ?_)
  · intro x2
    exact j_iret X dX10_mostOf_20 rfl (fun _ h => h)
  · refine j_if_ne X 9 dX10_mostOf_1 (by decide) ?_ ?_
    · refine j_bipush X (9 : Int32) dX10_mostOf_4 (by rfl) ?_
      refine j_goto X 20 dX10_mostOf_6 (by decide) ?_
      refine j_lv [] rfl ?_
      exact hk1 (9 : Int32)
    · refine j_iload_n X 0 rfl dX10_mostOf_9 rfl ?_
      refine j_iconst X (1 : Int32) dX10_mostOf_10 (by rfl) ?_
      refine j_icmp_ne X 19 dX10_mostOf_11 (by decide) ?_ ?_
      · refine j_bipush X (99 : Int32) dX10_mostOf_14 (by rfl) ?_
        refine j_goto X 20 dX10_mostOf_16 (by decide) ?_
        refine j_lv [] rfl ?_
        exact hk1 (99 : Int32)
      · refine j_iconst X (3 : Int32) dX10_mostOf_19 (by rfl) ?_
        refine j_lv [] rfl ?_
        exact hk1 (3 : Int32)
def f_X10_setAttribute (S : jS) (p1 : Int32) (p2 : Int32) (p3 : Int32) : Option (jR jS) := jbind (f_X10_checkPerson p1) (fun _ _ => jbind (f_X10_checkRange p2 (0 : Int32) (2 : Int32)) (fun _ _ => jbin0 (f_X10_mostOf p2) (fun v1 _ => jbind (f_X10_checkRange p3 (0 : Int32) v1) (fun _ _ => chk (inb p1 20) (chk (inb p2 3) (letE ((S (3 + p1.toNatClampNeg) p2.toNatClampNeg)) fun x3 => chk (inb p1 20) (chk (inb p2 3) (letE (jset S (3 + p1.toNatClampNeg) p2.toNatClampNeg p3) fun S5 => jbin0 (f_X0_settle S5) (fun _ S6 => some (0, x3, S6))))))) (fun t _ => some (t, (0 : Int32), S)))) (fun t _ => some (t, (0 : Int32), S))) (fun t _ => some (t, (0 : Int32), S))
abbrev rm_X10_setAttribute : Room := { frames := 8, cells := 3, slots := 18, locals := 137 }
set_option maxHeartbeats 4000000 in
set_option maxRecDepth 100000 in
theorem c_X10_setAttribute {l : Launch} {D : va_G} {B t0 : Nat} (hl9 : l.stackTraces = false) (S : jS) (X9 : jMem) (z : Nat → Prop) (p1 : Int32) (p2 : Int32) (p3 : Int32) : jCf l D B t0 yX10_setAttribute cX10_setAttribute 5 (some .int) rm_X10_setAttribute [.ref (B + 0), .int p1, .int p2, .int p3] (memG 0 358 D B S X9) z (f_X10_setAttribute S p1 p2 p3) rvI (fun S9 M9 => M9 = memG 0 358 D B S9 X9) z := by
  refine jC_of hl9 (me_X10_setAttribute).1 [(0, .ref (B + 0)), (1, .int p1), (2, .int p2), (3, .int p3)] ⟨by decide +kernel, Nat.le_of_ble_eq_true rfl⟩ rfl (fun κ hl hD hB hT X htab hin => ?_)
  subst hl hD hB hT
  have X : jX κ RX10 cX10_setAttribute 5 (some .int) := X
  unfold f_X10_setAttribute
  refine j_iload_n X 1 rfl dX10_setAttribute_0 rfl ?_
  refine j_callS X 2 12 (c_X10_checkPerson X.tr (memG 0 358 (kD κ) (kB κ) S X9) z p1) me_X10_checkPerson ml_X10_71 st_X10_checkPerson htab dX10_setAttribute_1 (rest := []) rfl rfl (by decide) (by decide) (Nat.le_of_ble_eq_true rfl) (fun t S9 M9 r9 hp9 hr9 => by cases hr9; exact ⟨rfl, hp9⟩) (fun v25 u26 M24 hM23 => ?_)
  subst M24
  refine j_st (st1 := []) rfl ?_
  refine j_iload_n X 2 rfl dX10_setAttribute_4 rfl ?_
  refine j_iconst X (0 : Int32) dX10_setAttribute_5 (by rfl) ?_
  refine j_iconst X (2 : Int32) dX10_setAttribute_6 (by rfl) ?_
  refine j_callS X 1 6 (c_X10_checkRange X.tr (memG 0 358 (kD κ) (kB κ) S X9) z p2 (0 : Int32) (2 : Int32)) me_X10_checkRange ml_X10_74 st_X10_checkRange htab dX10_setAttribute_7 (rest := []) rfl rfl (by decide) (by decide) (Nat.le_of_ble_eq_true rfl) (fun t S9 M9 r9 hp9 hr9 => by cases hr9; exact ⟨rfl, hp9⟩) (fun v21 u22 M20 hM19 => ?_)
  subst M20
  refine j_st (st1 := []) rfl ?_
  refine j_iload_n X 3 rfl dX10_setAttribute_10 rfl ?_
  refine j_iconst X (0 : Int32) dX10_setAttribute_11 (by rfl) ?_
  refine j_iload_n X 2 rfl dX10_setAttribute_12 rfl ?_
  refine j_call0S X 1 6 (c_X10_mostOf X.tr (memG 0 358 (kD κ) (kB κ) S X9) z p2) me_X10_mostOf ml_X10_78 st_X10_mostOf dX10_setAttribute_13 (rest := [.int (0 : Int32), .int p3]) rfl rfl (by decide) (by decide) (Nat.le_of_ble_eq_true rfl) (fun v1 u18 M17 hM16 => ?_)
  subst M17
  refine j_st (st1 := [.int v1, .int (0 : Int32), .int p3]) rfl ?_
  refine j_callS X 0 0 (c_X10_checkRange X.tr (memG 0 358 (kD κ) (kB κ) S X9) z p3 (0 : Int32) v1) me_X10_checkRange ml_X10_74 st_X10_checkRange htab dX10_setAttribute_16 (rest := []) rfl rfl (by decide) (by decide) (Nat.le_of_ble_eq_true rfl) (fun t S9 M9 r9 hp9 hr9 => by cases hr9; exact ⟨rfl, hp9⟩) (fun v14 u15 M13 hM12 => ?_)
  subst M13
  refine j_st (st1 := []) rfl ?_
  refine j_aload_n X 0 rfl dX10_setAttribute_19 rfl ?_
  refine g_getf X 0 kf_0 cf_X10 (by decide) fl_X10_12 dX10_setAttribute_20 rfl rfl ?_
  refine g_getN X 0 kf_1 cf_X6 (by decide) fn_X10_82 dX10_setAttribute_23 rfl rfl ?_
  refine j_iload_n X 1 rfl dX10_setAttribute_26 rfl ?_
  refine g_aald X 4 20 kf_2 rfl rfl dX10_setAttribute_27 rfl rfl (fun h2 => ?_)
  refine j_iload_n X 2 rfl dX10_setAttribute_28 rfl ?_
  refine g_iald X 3 (kAttr h2) (by decide) dX10_setAttribute_29 (fun h11 => ?_)
  refine j_letE (fun x3 => ?_)
  refine j_istore X [(4, .int x3), (0, .ref (kB κ + 0)), (1, .int p1), (2, .int p2), (3, .int p3)] dX10_setAttribute_30 (by decide) rfl ?_
  refine j_aload_n X 1 rfl dX10_setAttribute_32 rfl ?_
  refine g_getf X 0 kf_0 cf_X10 (by decide) fl_X10_12 dX10_setAttribute_33 rfl rfl ?_
  refine g_getN X 0 kf_1 cf_X6 (by decide) fn_X10_82 dX10_setAttribute_36 rfl rfl ?_
  refine j_iload_n X 2 rfl dX10_setAttribute_39 rfl ?_
  refine g_aald X 4 20 kf_2 rfl rfl dX10_setAttribute_40 rfl rfl (fun h4 => ?_)
  refine j_iload_n X 3 rfl dX10_setAttribute_41 rfl ?_
  refine j_iload_n X 4 rfl dX10_setAttribute_42 rfl ?_
  refine g_iast X 3 (kAttr h4) (by decide) dX10_setAttribute_43 (fun h10 S5 => ?_)
  refine j_aload_n X 1 rfl dX10_setAttribute_44 rfl ?_
  refine g_getf X 1 kf_0 cf_X10 (by decide) fl_X10_19 dX10_setAttribute_45 rfl rfl ?_
  refine j_aload_n X 1 rfl dX10_setAttribute_48 rfl ?_
  refine g_getf X 0 kf_0 cf_X10 (by decide) fl_X10_12 dX10_setAttribute_49 rfl rfl ?_
  refine j_call0V X 0 0 (c_X0_settle X.tr S5 X9 z) me_X0_settle ml_X10_86 iv_X0_settle cf_X0 dX10_setAttribute_52 (memG_at kf_24) (rest := []) rfl rfl (by decide) (by decide) (Nat.le_of_ble_eq_true rfl) (fun v9 S6 M8 hM7 => ?_)
  subst M8
  refine j_st (st1 := []) rfl ?_
  refine j_iload X 0 rfl dX10_setAttribute_55 ?_
  exact j_iret X dX10_setAttribute_57 rfl (fun _ h => h)
def f_X10_setTag (S : jS) (p1 : Int32) (p2 : Int32) (p3 : Int32) : Option (jR jS) := jbind (f_X10_checkPerson p1) (fun _ _ => jbind (f_X10_checkRange p2 (0 : Int32) (7 : Int32)) (fun _ _ => chk (inb p1 20) (jbin0 (f_X10_hasBit (S 23 p1.toNatClampNeg) p2) (fun v1 _ => chk (inb p1 20) (jbin0 (f_X10_withBit (S 23 p1.toNatClampNeg) p2 p3) (fun v2 _ => chk (inb p1 20) (letE (jset S 23 p1.toNatClampNeg v2) fun S3 => jbin0 (f_X0_settle S3) (fun _ S4 => chk (isb v1) (some (0, v1, S4))))))))) (fun t _ => some (t, (0 : Int32), S))) (fun t _ => some (t, (0 : Int32), S))
abbrev rm_X10_setTag : Room := { frames := 8, cells := 2, slots := 12, locals := 137 }
set_option maxHeartbeats 4000000 in
set_option maxRecDepth 100000 in
theorem c_X10_setTag {l : Launch} {D : va_G} {B t0 : Nat} (hl9 : l.stackTraces = false) (S : jS) (X9 : jMem) (z : Nat → Prop) (p1 : Int32) (p2 : Int32) (p3 : Int32) : jCf l D B t0 yX10_setTag cX10_setTag 5 (some .boolean) rm_X10_setTag [.ref (B + 0), .int p1, .int p2, .int p3] (memG 0 358 D B S X9) z (f_X10_setTag S p1 p2 p3) rvI (fun S9 M9 => M9 = memG 0 358 D B S9 X9) z := by
  refine jC_of hl9 (me_X10_setTag).1 [(0, .ref (B + 0)), (1, .int p1), (2, .int p2), (3, .int p3)] ⟨by decide +kernel, Nat.le_of_ble_eq_true rfl⟩ rfl (fun κ hl hD hB hT X htab hin => ?_)
  subst hl hD hB hT
  have X : jX κ RX10 cX10_setTag 5 (some .boolean) := X
  unfold f_X10_setTag
  refine j_iload_n X 1 rfl dX10_setTag_0 rfl ?_
  refine j_callS X 1 6 (c_X10_checkPerson X.tr (memG 0 358 (kD κ) (kB κ) S X9) z p1) me_X10_checkPerson ml_X10_71 st_X10_checkPerson htab dX10_setTag_1 (rest := []) rfl rfl (by decide) (by decide) (Nat.le_of_ble_eq_true rfl) (fun t S9 M9 r9 hp9 hr9 => by cases hr9; exact ⟨rfl, hp9⟩) (fun v23 u24 M22 hM21 => ?_)
  subst M22
  refine j_st (st1 := []) rfl ?_
  refine j_iload_n X 2 rfl dX10_setTag_4 rfl ?_
  refine j_iconst X (0 : Int32) dX10_setTag_5 (by rfl) ?_
  refine j_bipush X (7 : Int32) dX10_setTag_6 (by rfl) ?_
  refine j_callS X 0 0 (c_X10_checkRange X.tr (memG 0 358 (kD κ) (kB κ) S X9) z p2 (0 : Int32) (7 : Int32)) me_X10_checkRange ml_X10_74 st_X10_checkRange htab dX10_setTag_8 (rest := []) rfl rfl (by decide) (by decide) (Nat.le_of_ble_eq_true rfl) (fun t S9 M9 r9 hp9 hr9 => by cases hr9; exact ⟨rfl, hp9⟩) (fun v19 u20 M18 hM17 => ?_)
  subst M18
  refine j_st (st1 := []) rfl ?_
  refine j_aload_n X 0 rfl dX10_setTag_11 rfl ?_
  refine g_getf X 0 kf_0 cf_X10 (by decide) fl_X10_12 dX10_setTag_12 rfl rfl ?_
  refine g_getN X 1 kf_1 cf_X6 (by decide) fn_X10_90 dX10_setTag_15 rfl rfl ?_
  refine j_iload_n X 1 rfl dX10_setTag_18 rfl ?_
  refine g_iald X 20 kf_23 (by decide) dX10_setTag_19 (fun h16 => ?_)
  refine j_iload_n X 2 rfl dX10_setTag_20 rfl ?_
  refine j_call0S X 0 0 (c_X10_hasBit X.tr (memG 0 358 (kD κ) (kB κ) S X9) z (S 23 p1.toNatClampNeg) p2) me_X10_hasBit ml_X10_93 st_X10_hasBit dX10_setTag_21 (rest := []) rfl rfl (by decide) (by decide) (Nat.le_of_ble_eq_true rfl) (fun v1 u15 M14 hM13 => ?_)
  subst M14
  refine j_st (st1 := [.int v1]) rfl ?_
  refine j_istore X [(4, .int v1), (0, .ref (kB κ + 0)), (1, .int p1), (2, .int p2), (3, .int p3)] dX10_setTag_24 (by decide) rfl ?_
  refine j_aload_n X 1 rfl dX10_setTag_26 rfl ?_
  refine g_getf X 0 kf_0 cf_X10 (by decide) fl_X10_12 dX10_setTag_27 rfl rfl ?_
  refine g_getN X 1 kf_1 cf_X6 (by decide) fn_X10_90 dX10_setTag_30 rfl rfl ?_
  refine j_iload_n X 2 rfl dX10_setTag_33 rfl ?_
  refine j_aload_n X 1 rfl dX10_setTag_34 rfl ?_
  refine g_getf X 0 kf_0 cf_X10 (by decide) fl_X10_12 dX10_setTag_35 rfl rfl ?_
  refine g_getN X 1 kf_1 cf_X6 (by decide) fn_X10_90 dX10_setTag_38 rfl rfl ?_
  refine j_iload_n X 2 rfl dX10_setTag_41 rfl ?_
  refine g_iald X 20 kf_23 (by decide) dX10_setTag_42 (fun h12 => ?_)
  refine j_iload_n X 3 rfl dX10_setTag_43 rfl ?_
  refine j_iload_n X 4 rfl dX10_setTag_44 rfl ?_
  refine j_call0S X 0 0 (c_X10_withBit X.tr (memG 0 358 (kD κ) (kB κ) S X9) z (S 23 p1.toNatClampNeg) p2 p3) me_X10_withBit ml_X10_97 st_X10_withBit dX10_setTag_45 (rest := [.int p1, .ref (kB κ + 23)]) rfl rfl (by decide) (by decide) (Nat.le_of_ble_eq_true rfl) (fun v2 u11 M10 hM9 => ?_)
  subst M10
  refine j_st (st1 := [.int v2, .int p1, .ref (kB κ + 23)]) rfl ?_
  refine g_iast X 20 kf_23 (by decide) dX10_setTag_48 (fun h8 S3 => ?_)
  refine j_aload_n X 1 rfl dX10_setTag_49 rfl ?_
  refine g_getf X 1 kf_0 cf_X10 (by decide) fl_X10_19 dX10_setTag_50 rfl rfl ?_
  refine j_aload_n X 1 rfl dX10_setTag_53 rfl ?_
  refine g_getf X 0 kf_0 cf_X10 (by decide) fl_X10_12 dX10_setTag_54 rfl rfl ?_
  refine j_call0V X 0 0 (c_X0_settle X.tr S3 X9 z) me_X0_settle ml_X10_86 iv_X0_settle cf_X0 dX10_setTag_57 (memG_at kf_24) (rest := []) rfl rfl (by decide) (by decide) (Nat.le_of_ble_eq_true rfl) (fun v7 S4 M6 hM5 => ?_)
  subst M6
  refine j_st (st1 := []) rfl ?_
  refine j_iload X 0 rfl dX10_setTag_60 ?_
  exact j_zret X dX10_setTag_62 rfl (fun _ h => h)
def f_X10_checkAudience (p0 : Int32) : Option (jR Unit) := jbind (f_X10_checkRange p0 (0 : Int32) (5 : Int32)) (fun _ _ => some (0, (0 : Int32), ())) (fun t _ => some (t, (0 : Int32), ()))
abbrev rm_X10_checkAudience : Room := { frames := 7, cells := 1, slots := 6, locals := 112 }
set_option maxHeartbeats 4000000 in
set_option maxRecDepth 100000 in
theorem c_X10_checkAudience {l : Launch} {D : va_G} {B t0 : Nat} (hl9 : l.stackTraces = false) (M : jMem) (z : Nat → Prop) (p0 : Int32) : jCf l D B t0 yX10_checkAudience cX10_checkAudience 1 none rm_X10_checkAudience [.int p0] M z (f_X10_checkAudience p0) rvV (fun (S9 : Unit) M9 => M9 = M) z := by
  refine jC_of hl9 (me_X10_checkAudience).1 [(0, .int p0)] ⟨by decide +kernel, Nat.le_of_ble_eq_true rfl⟩ rfl (fun κ hl hD hB hT X htab hin => ?_)
  subst hl hD hB hT
  have X : jX κ RX10 cX10_checkAudience 1 none := X
  unfold f_X10_checkAudience
  refine j_iload_n X 0 rfl dX10_checkAudience_0 rfl ?_
  refine j_iconst X (0 : Int32) dX10_checkAudience_1 (by rfl) ?_
  refine j_iconst X (5 : Int32) dX10_checkAudience_2 (by rfl) ?_
  refine j_callS X 0 0 (c_X10_checkRange X.tr M z p0 (0 : Int32) (5 : Int32)) me_X10_checkRange ml_X10_74 st_X10_checkRange htab dX10_checkAudience_3 (rest := []) rfl rfl (by decide) (by decide) (Nat.le_of_ble_eq_true rfl) (fun t S9 M9 r9 hp9 hr9 => by cases hr9; exact ⟨rfl, hp9⟩) (fun v3 u4 M2 hM1 => ?_)
  subst M2
  refine j_st (st1 := []) rfl ?_
  exact j_vret X dX10_checkAudience_6 rfl (fun _ h => h)
def f_X10_type (S : jS) (p1 : Int32) (p2 : Int32) : Option (jR jS) := jbind (f_X10_checkAudience p1) (fun _ _ => jbind (f_X10_checkRange p2 (33 : Int32) (126 : Int32)) (fun _ _ => chk (inb p1 6) ((if (S (37 + 4 * p1.toNatClampNeg) 1) < (60 : Int32) then jbin0 (f_X8_append S (37 + 4 * p1.toNatClampNeg) p2) (fun _ S2 => some (0, (S2 (37 + 4 * p1.toNatClampNeg) 1), S2)) else some (2, (0 : Int32), S)))) (fun t _ => some (t, (0 : Int32), S))) (fun t _ => some (t, (0 : Int32), S))
abbrev rm_X10_type : Room := { frames := 8, cells := 3, slots := 18, locals := 132 }
set_option maxHeartbeats 4000000 in
set_option maxRecDepth 100000 in
theorem c_X10_type {l : Launch} {D : va_G} {B t0 : Nat} (hl9 : l.stackTraces = false) (S : jS) (X9 : jMem) (z : Nat → Prop) (p1 : Int32) (p2 : Int32) : jCf l D B t0 yX10_type cX10_type 4 (some .int) rm_X10_type [.ref (B + 0), .int p1, .int p2] (memG 0 358 D B S X9) z (f_X10_type S p1 p2) rvI (fun S9 M9 => M9 = memG 0 358 D B S9 X9) z := by
  refine jC_of hl9 (me_X10_type).1 [(0, .ref (B + 0)), (1, .int p1), (2, .int p2)] ⟨by decide +kernel, Nat.le_of_ble_eq_true rfl⟩ rfl (fun κ hl hD hB hT X htab hin => ?_)
  subst hl hD hB hT
  have X : jX κ RX10 cX10_type 4 (some .int) := X
  unfold f_X10_type
  refine j_iload_n X 1 rfl dX10_type_0 rfl ?_
  refine j_callS X 2 12 (c_X10_checkAudience X.tr (memG 0 358 (kD κ) (kB κ) S X9) z p1) me_X10_checkAudience ml_X10_101 st_X10_checkAudience htab dX10_type_1 (rest := []) rfl rfl (by decide) (by decide) (Nat.le_of_ble_eq_true rfl) (fun t S9 M9 r9 hp9 hr9 => by cases hr9; exact ⟨rfl, hp9⟩) (fun v12 u13 M11 hM10 => ?_)
  subst M11
  refine j_st (st1 := []) rfl ?_
  refine j_iload_n X 2 rfl dX10_type_4 rfl ?_
  refine j_bipush X (33 : Int32) dX10_type_5 (by rfl) ?_
  refine j_bipush X (126 : Int32) dX10_type_7 (by rfl) ?_
  refine j_callS X 1 6 (c_X10_checkRange X.tr (memG 0 358 (kD κ) (kB κ) S X9) z p2 (33 : Int32) (126 : Int32)) me_X10_checkRange ml_X10_74 st_X10_checkRange htab dX10_type_9 (rest := []) rfl rfl (by decide) (by decide) (Nat.le_of_ble_eq_true rfl) (fun t S9 M9 r9 hp9 hr9 => by cases hr9; exact ⟨rfl, hp9⟩) (fun v8 u9 M7 hM6 => ?_)
  subst M7
  refine j_st (st1 := []) rfl ?_
  refine j_aload_n X 0 rfl dX10_type_12 rfl ?_
  refine g_getf X 1 kf_0 cf_X10 (by decide) fl_X10_19 dX10_type_13 rfl rfl ?_
  refine g_getN X 0 kf_24 cf_X0 (by decide) fn_X10_104 dX10_type_16 rfl rfl ?_
  refine j_iload_n X 1 rfl dX10_type_19 rfl ?_
  refine g_aald X 5 6 kf_25 rfl rfl dX10_type_20 rfl rfl (fun h1 => ?_)
  refine j_astore_n X [(3, .ref (kB κ + (37 + 4 * p1.toNatClampNeg))), (0, .ref (kB κ + 0)), (1, .int p1), (2, .int p2)] dX10_type_21 rfl (by decide) rfl ?_
  refine j_aload_n X 0 rfl dX10_type_22 rfl ?_
  refine g_getN X 1 (kText (isText_d h1)).1 cf_X8 (by decide) fn_X10_108 dX10_type_23 rfl rfl ?_
  refine j_bipush X (60 : Int32) dX10_type_26 (by rfl) ?_
  refine j_icmp_lt X 41 dX10_type_28 (by decide) ?_ ?_
  · refine j_aload_n X 0 rfl dX10_type_41 rfl ?_
    refine j_iload_n X 3 rfl dX10_type_42 rfl ?_
    refine j_call0V X 1 6 (c_X8_append X.tr S X9 z (37 + 4 * p1.toNatClampNeg) (isText_d h1) p2) me_X8_append ml_X10_121 iv_X8_append cf_X8 dX10_type_43 (memG_at (kText (isText_d h1)).1) (rest := []) rfl rfl (by decide) (by decide) (Nat.le_of_ble_eq_true rfl) (fun v5 S2 M4 hM3 => ?_)
    subst M4
    refine j_st (st1 := []) rfl ?_
    refine j_aload_n X 0 rfl dX10_type_46 rfl ?_
    refine g_getN X 1 (kText (isText_d h1)).1 cf_X8 (by decide) fn_X10_108 dX10_type_47 rfl rfl ?_
    exact j_iret X dX10_type_50 rfl (fun _ h => h)
  · exact j_throw X th_X10_2_114_118 sr_X10_116 htab dX10_type_31 dX10_type_34 dX10_type_35 dX10_type_37 dX10_type_40 (by decide) (by decide) rfl
def f_X10_erase (S : jS) (p1 : Int32) (p2 : Int32) : Option (jR jS) := jbind (f_X10_checkAudience p1) (fun _ _ => (if (1 : Int32) ≤ p2 then chk (inb p1 6) (letE (jset S (37 + 4 * p1.toNatClampNeg) 1 ((if (0 : Int32) < ((S (37 + 4 * p1.toNatClampNeg) 1) - p2) then ((S (37 + 4 * p1.toNatClampNeg) 1) - p2) else (0 : Int32)))) fun S2 => some (0, (S2 (37 + 4 * p1.toNatClampNeg) 1), S2)) else some (1, (0 : Int32), S))) (fun t _ => some (t, (0 : Int32), S))
abbrev rm_X10_erase : Room := { frames := 8, cells := 2, slots := 12, locals := 132 }
set_option maxHeartbeats 4000000 in
set_option maxRecDepth 100000 in
theorem c_X10_erase {l : Launch} {D : va_G} {B t0 : Nat} (hl9 : l.stackTraces = false) (S : jS) (X9 : jMem) (z : Nat → Prop) (p1 : Int32) (p2 : Int32) : jCf l D B t0 yX10_erase cX10_erase 4 (some .int) rm_X10_erase [.ref (B + 0), .int p1, .int p2] (memG 0 358 D B S X9) z (f_X10_erase S p1 p2) rvI (fun S9 M9 => M9 = memG 0 358 D B S9 X9) z := by
  refine jC_of hl9 (me_X10_erase).1 [(0, .ref (B + 0)), (1, .int p1), (2, .int p2)] ⟨by decide +kernel, Nat.le_of_ble_eq_true rfl⟩ rfl (fun κ hl hD hB hT X htab hin => ?_)
  subst hl hD hB hT
  have X : jX κ RX10 cX10_erase 4 (some .int) := X
  unfold f_X10_erase
  refine j_iload_n X 1 rfl dX10_erase_0 rfl ?_
  refine j_callS X 1 6 (c_X10_checkAudience X.tr (memG 0 358 (kD κ) (kB κ) S X9) z p1) me_X10_checkAudience ml_X10_101 st_X10_checkAudience htab dX10_erase_1 (rest := []) rfl rfl (by decide) (by decide) (Nat.le_of_ble_eq_true rfl) (fun t S9 M9 r9 hp9 hr9 => by cases hr9; exact ⟨rfl, hp9⟩) (fun v5 u6 M4 hM3 => ?_)
  subst M4
  refine j_st (st1 := []) rfl ?_
  refine j_iload_n X 2 rfl dX10_erase_4 rfl ?_
  refine j_iconst X (1 : Int32) dX10_erase_5 (by rfl) ?_
  refine j_icmp_ge X 19 dX10_erase_6 (by decide) ?_ ?_
  · refine j_aload_n X 0 rfl dX10_erase_19 rfl ?_
    refine g_getf X 1 kf_0 cf_X10 (by decide) fl_X10_19 dX10_erase_20 rfl rfl ?_
    refine g_getN X 0 kf_24 cf_X0 (by decide) fn_X10_104 dX10_erase_23 rfl rfl ?_
    refine j_iload_n X 1 rfl dX10_erase_26 rfl ?_
    refine g_aald X 5 6 kf_25 rfl rfl dX10_erase_27 rfl rfl (fun h1 => ?_)
    refine j_astore_n X [(3, .ref (kB κ + (37 + 4 * p1.toNatClampNeg))), (0, .ref (kB κ + 0)), (1, .int p1), (2, .int p2)] dX10_erase_28 rfl (by decide) rfl ?_
    refine j_aload_n X 0 rfl dX10_erase_29 rfl ?_
    refine j_iconst X (0 : Int32) dX10_erase_30 (by rfl) ?_
    refine j_aload_n X 0 rfl dX10_erase_31 rfl ?_
    refine g_getN X 1 (kText (isText_d h1)).1 cf_X8 (by decide) fn_X10_108 dX10_erase_32 rfl rfl ?_
    refine j_iload_n X 3 rfl dX10_erase_35 rfl ?_
    refine j_isub X dX10_erase_36 ?_
    refine j_mmax X ml_X10_129 st_mmax in_math co_mmax dX10_erase_37 ⟨by decide, Nat.le_of_ble_eq_true rfl⟩ ?_
    refine g_putN X 1 (kText (isText_d h1)).1 cf_X8 (by decide) fn_X10_108 dX10_erase_40 rfl rfl rfl rfl (Nat.le_of_ble_eq_true rfl) rfl (fun S2 => ?_)
    refine j_aload_n X 0 rfl dX10_erase_43 rfl ?_
    refine g_getN X 1 (kText (isText_d h1)).1 cf_X8 (by decide) fn_X10_108 dX10_erase_44 rfl rfl ?_
    exact j_iret X dX10_erase_47 rfl (fun _ h => h)
  · exact j_throw X th_X10_1_124_128 sr_X10_126 htab dX10_erase_9 dX10_erase_12 dX10_erase_13 dX10_erase_15 dX10_erase_18 (by decide) (by decide) rfl
def f_X10_fault (S : jS) (p1 : Int32) : Option (jR jS) := jbind (f_X10_checkAudience p1) (fun _ _ => jbin0 (f_X0_faultOf S p1) (fun v1 S2 => some (0, v1, S2))) (fun t _ => some (t, (0 : Int32), S))
abbrev rm_X10_fault : Room := { frames := 8, cells := 1, slots := 6, locals := 132 }
set_option maxHeartbeats 4000000 in
set_option maxRecDepth 100000 in
theorem c_X10_fault {l : Launch} {D : va_G} {B t0 : Nat} (hl9 : l.stackTraces = false) (S : jS) (X9 : jMem) (z : Nat → Prop) (p1 : Int32) : jCf l D B t0 yX10_fault cX10_fault 2 (some .int) rm_X10_fault [.ref (B + 0), .int p1] (memG 0 358 D B S X9) z (f_X10_fault S p1) rvI (fun S9 M9 => M9 = memG 0 358 D B S9 X9) z := by
  refine jC_of hl9 (me_X10_fault).1 [(0, .ref (B + 0)), (1, .int p1)] ⟨by decide +kernel, Nat.le_of_ble_eq_true rfl⟩ rfl (fun κ hl hD hB hT X htab hin => ?_)
  subst hl hD hB hT
  have X : jX κ RX10 cX10_fault 2 (some .int) := X
  unfold f_X10_fault
  refine j_iload_n X 1 rfl dX10_fault_0 rfl ?_
  refine j_callS X 0 0 (c_X10_checkAudience X.tr (memG 0 358 (kD κ) (kB κ) S X9) z p1) me_X10_checkAudience ml_X10_101 st_X10_checkAudience htab dX10_fault_1 (rest := []) rfl rfl (by decide) (by decide) (Nat.le_of_ble_eq_true rfl) (fun t S9 M9 r9 hp9 hr9 => by cases hr9; exact ⟨rfl, hp9⟩) (fun v7 u8 M6 hM5 => ?_)
  subst M6
  refine j_st (st1 := []) rfl ?_
  refine j_aload_n X 0 rfl dX10_fault_4 rfl ?_
  refine g_getf X 1 kf_0 cf_X10 (by decide) fl_X10_19 dX10_fault_5 rfl rfl ?_
  refine j_iload_n X 1 rfl dX10_fault_8 rfl ?_
  refine j_call0V X 0 0 (c_X0_faultOf X.tr S X9 z p1) me_X0_faultOf ml_X10_143 iv_X0_faultOf cf_X0 dX10_fault_9 (memG_at kf_24) (rest := []) rfl rfl (by decide) (by decide) (Nat.le_of_ble_eq_true rfl) (fun v1 S2 M4 hM3 => ?_)
  subst M4
  refine j_st (st1 := [.int v1]) rfl ?_
  exact j_iret X dX10_fault_12 rfl (fun _ h => h)
def f_X10_checkSettable (S : jS) (p1 : Int32) : Option (jR jS) := jbin0 (f_X0_canBeSet S p1) (fun v1 S2 => (if v1 = (0 : Int32) then some (2, (0 : Int32), S2) else some (0, (0 : Int32), S2)))
abbrev rm_X10_checkSettable : Room := { frames := 6, cells := 1, slots := 6, locals := 106 }
set_option maxHeartbeats 4000000 in
set_option maxRecDepth 100000 in
theorem c_X10_checkSettable {l : Launch} {D : va_G} {B t0 : Nat} (hl9 : l.stackTraces = false) (S : jS) (X9 : jMem) (z : Nat → Prop) (p1 : Int32) : jCf l D B t0 yX10_checkSettable cX10_checkSettable 2 none rm_X10_checkSettable [.ref (B + 0), .int p1] (memG 0 358 D B S X9) z (f_X10_checkSettable S p1) rvV (fun S9 M9 => M9 = memG 0 358 D B S9 X9) z := by
  refine jC_of hl9 (me_X10_checkSettable).1 [(0, .ref (B + 0)), (1, .int p1)] ⟨by decide +kernel, Nat.le_of_ble_eq_true rfl⟩ rfl (fun κ hl hD hB hT X htab hin => ?_)
  subst hl hD hB hT
  have X : jX κ RX10 cX10_checkSettable 2 none := X
  unfold f_X10_checkSettable
  refine j_aload_n X 0 rfl dX10_checkSettable_0 rfl ?_
  refine g_getf X 1 kf_0 cf_X10 (by decide) fl_X10_19 dX10_checkSettable_1 rfl rfl ?_
  refine j_iload_n X 1 rfl dX10_checkSettable_4 rfl ?_
  refine j_call0V X 1 6 (c_X0_canBeSet X.tr S X9 z p1) me_X0_canBeSet ml_X10_305 iv_X0_canBeSet cf_X0 dX10_checkSettable_5 (memG_at kf_24) (rest := []) rfl rfl (by decide) (by decide) (Nat.le_of_ble_eq_true rfl) (fun v1 S2 M4 hM3 => ?_)
  subst M4
  refine j_st (st1 := [.int v1]) rfl ?_
  refine j_if_ne X 22 dX10_checkSettable_8 (by decide) ?_ ?_
  · exact j_throwW X th_X10_2_114_118 sr_X10_308 htab dX10_checkSettable_11 dX10_checkSettable_14 dX10_checkSettable_15 dX10_checkSettable_18 dX10_checkSettable_21 (by decide) (by decide) rfl
  · exact j_vret X dX10_checkSettable_22 rfl (fun _ h => h)
def f_X10_set (S : jS) (p1 : Int32) : Option (jR jS) := jbind (f_X10_checkAudience p1) (fun _ _ => jbind (f_X10_checkSettable S p1) (fun _ S1 => jbin0 (f_X0_tryDraft S1 p1) (fun _ S2 => chk (inb p1 6) (chk (inb p1 6) (letE (((S2 30 p1.toNatClampNeg) ^^^ (S2 31 p1.toNatClampNeg))) fun x3 => jbin0 (f_X0_adoptDraft S2 p1) (fun _ S4 => jbin0 (f_J6_bitCount_0f7a4 x3) (fun v5 _ => some (0, v5, S4))))))) (fun t S9 => some (t, (0 : Int32), S9))) (fun t _ => some (t, (0 : Int32), S))
abbrev rm_X10_set : Room := { frames := 8, cells := 2, slots := 12, locals := 138 }
set_option maxHeartbeats 4000000 in
set_option maxRecDepth 100000 in
theorem c_X10_set {l : Launch} {D : va_G} {B t0 : Nat} (hl9 : l.stackTraces = false) (S : jS) (X9 : jMem) (z : Nat → Prop) (p1 : Int32) : jCf l D B t0 yX10_set cX10_set 3 (some .int) rm_X10_set [.ref (B + 0), .int p1] (memG 0 358 D B S X9) z (f_X10_set S p1) rvI (fun S9 M9 => M9 = memG 0 358 D B S9 X9) z := by
  refine jC_of hl9 (me_X10_set).1 [(0, .ref (B + 0)), (1, .int p1)] ⟨by decide +kernel, Nat.le_of_ble_eq_true rfl⟩ rfl (fun κ hl hD hB hT X htab hin => ?_)
  subst hl hD hB hT
  have X : jX κ RX10 cX10_set 3 (some .int) := X
  unfold f_X10_set
  refine j_iload_n X 1 rfl dX10_set_0 rfl ?_
  refine j_callS X 1 6 (c_X10_checkAudience X.tr (memG 0 358 (kD κ) (kB κ) S X9) z p1) me_X10_checkAudience ml_X10_101 st_X10_checkAudience htab dX10_set_1 (rest := []) rfl rfl (by decide) (by decide) (Nat.le_of_ble_eq_true rfl) (fun t S9 M9 r9 hp9 hr9 => by cases hr9; exact ⟨rfl, hp9⟩) (fun v22 u23 M21 hM20 => ?_)
  subst M21
  refine j_st (st1 := []) rfl ?_
  refine j_aload_n X 0 rfl dX10_set_4 rfl ?_
  refine j_iload_n X 1 rfl dX10_set_5 rfl ?_
  refine j_callV X 0 0 (c_X10_checkSettable X.tr S X9 z p1) me_X10_checkSettable ml_X10_146 iv_X10_checkSettable cf_X10 htab dX10_set_6 (memG_at kf_0) (rest := []) rfl rfl (by decide) (by decide) (Nat.le_of_ble_eq_true rfl) (fun t S9 M9 r9 hp9 hr9 => by cases hr9; exact ⟨rfl, hp9⟩) (fun v19 S1 M18 hM17 => ?_)
  subst M18
  refine j_st (st1 := []) rfl ?_
  refine j_aload_n X 0 rfl dX10_set_9 rfl ?_
  refine g_getf X 1 kf_0 cf_X10 (by decide) fl_X10_19 dX10_set_10 rfl rfl ?_
  refine j_iload_n X 1 rfl dX10_set_13 rfl ?_
  refine j_aload_n X 0 rfl dX10_set_14 rfl ?_
  refine g_getf X 0 kf_0 cf_X10 (by decide) fl_X10_12 dX10_set_15 rfl rfl ?_
  refine j_call0V X 0 0 (c_X0_tryDraft X.tr S1 X9 z p1) me_X0_tryDraft ml_X10_149 iv_X0_tryDraft cf_X0 dX10_set_18 (memG_at kf_24) (rest := []) rfl rfl (by decide) (by decide) (Nat.le_of_ble_eq_true rfl) (fun v16 S2 M15 hM14 => ?_)
  subst M15
  refine j_st (st1 := []) rfl ?_
  refine j_aload_n X 0 rfl dX10_set_21 rfl ?_
  refine g_getf X 1 kf_0 cf_X10 (by decide) fl_X10_19 dX10_set_22 rfl rfl ?_
  refine g_getN X 3 kf_24 cf_X0 (by decide) fn_X10_153 dX10_set_25 rfl rfl ?_
  refine j_iload_n X 1 rfl dX10_set_28 rfl ?_
  refine g_iald X 6 kf_30 (by decide) dX10_set_29 (fun h13 => ?_)
  refine j_aload_n X 0 rfl dX10_set_30 rfl ?_
  refine g_getf X 1 kf_0 cf_X10 (by decide) fl_X10_19 dX10_set_31 rfl rfl ?_
  refine g_getN X 4 kf_24 cf_X0 (by decide) fn_X10_156 dX10_set_34 rfl rfl ?_
  refine j_iload_n X 1 rfl dX10_set_37 rfl ?_
  refine g_iald X 6 kf_31 (by decide) dX10_set_38 (fun h12 => ?_)
  refine j_ixor X dX10_set_39 ?_
  refine j_letE (fun x3 => ?_)
  refine j_istore_n X [(2, .int x3), (0, .ref (kB κ + 0)), (1, .int p1)] dX10_set_40 rfl (by decide) rfl ?_
  refine j_aload_n X 1 rfl dX10_set_41 rfl ?_
  refine g_getf X 1 kf_0 cf_X10 (by decide) fl_X10_19 dX10_set_42 rfl rfl ?_
  refine j_iload_n X 2 rfl dX10_set_45 rfl ?_
  refine j_call0V X 0 0 (c_X0_adoptDraft X.tr S2 X9 z p1) me_X0_adoptDraft ml_X10_159 iv_X0_adoptDraft cf_X0 dX10_set_46 (memG_at kf_24) (rest := []) rfl rfl (by decide) (by decide) (Nat.le_of_ble_eq_true rfl) (fun v11 S4 M10 hM9 => ?_)
  subst M10
  refine j_st (st1 := []) rfl ?_
  refine j_iload_n X 0 rfl dX10_set_49 rfl ?_
  refine j_call0S X 0 0 (c_J6_bitCount_0f7a4 X.tr (memG 0 358 (kD κ) (kB κ) S4 X9) z x3) me_J6_bitCount_0f7a4 ml_X10_162 st_J6_bitCount_0f7a4 dX10_set_50 (rest := []) rfl rfl (by decide) (by decide) (Nat.le_of_ble_eq_true rfl) (fun v5 u8 M7 hM6 => ?_)
  subst M7
  refine j_st (st1 := [.int v5]) rfl ?_
  exact j_iret X dX10_set_53 rfl (fun _ h => h)
def f_X10_decidedView (S : jS) (p1 : Int32) (p2 : Int32) (a3 : Nat) (b4 : Nat) : Option (jR Unit) := chk (inb p2 8) (jbin0 (f_X3_decidingRule S (322 + 3 * p2.toNatClampNeg) p1 a3) (fun v2 _ => (if v2 = (-1 : Int32) then some (0, (0 : Int32), ()) else chk (inb p2 8) (jbin0 (f_X3_trialOf S (322 + 3 * p2.toNatClampNeg) v2) (fun v4 _ => joinK (fun (x17 : Int32) => some (0, x17, ())) (fun k5 => (if v4 = (-1 : Int32) then chk (inb p2 8) (jbin0 (f_X3_outcomeOf S (322 + 3 * p2.toNatClampNeg) v2) (fun v13 _ => k5 v13)) else chk (inb v4 6) (chk (inb v4 6) (jbin0 (f_X9_armFor S (346 + 2 * v4.toNatClampNeg) p1 ((S (b4 + 1) v4.toNatClampNeg))) (fun v7 _ => k5 v7))))))))))
abbrev rm_X10_decidedView : Room := { frames := 3, cells := 0, slots := 0, locals := 72 }
set_option maxHeartbeats 4000000 in
set_option maxRecDepth 100000 in
theorem c_X10_decidedView {l : Launch} {D : va_G} {B t0 : Nat} (hl9 : l.stackTraces = false) (S : jS) (X9 : jMem) (z : Nat → Prop) (p1 : Int32) (p2 : Int32) (a3 : Nat) (ha3 : kIn 0 358 a3 1006) (b4 : Nat) (hb4 : isPast b4) : jCf l D B t0 yX10_decidedView cX10_decidedView 7 (some .int) rm_X10_decidedView [.ref (B + 0), .int p1, .int p2, .ref (B + a3), .ref (B + b4)] (memG 0 358 D B S X9) z (f_X10_decidedView S p1 p2 a3 b4) rvI (fun (S9 : Unit) M9 => M9 = memG 0 358 D B S X9) z := by
  refine jC_of hl9 (me_X10_decidedView).1 [(0, .ref (B + 0)), (1, .int p1), (2, .int p2), (3, .ref (B + a3)), (4, .ref (B + b4))] ⟨by decide +kernel, Nat.le_of_ble_eq_true rfl⟩ rfl (fun κ hl hD hB hT X htab hin => ?_)
  subst hl hD hB hT
  have X : jX κ RX10 cX10_decidedView 7 (some .int) := X
  unfold f_X10_decidedView
  refine j_aload_n X 0 rfl dX10_decidedView_0 rfl ?_
  refine g_getf X 2 kf_0 cf_X10 (by decide) fl_X10_25 dX10_decidedView_1 rfl rfl ?_
  refine j_iload_n X 2 rfl dX10_decidedView_4 rfl ?_
  refine g_aald X 6 8 kf_61 rfl rfl dX10_decidedView_5 rfl rfl (fun h1 => ?_)
  refine j_iload_n X 1 rfl dX10_decidedView_6 rfl ?_
  refine j_aload_n X 3 rfl dX10_decidedView_7 rfl ?_
  refine j_call0V X 0 0 (c_X3_decidingRule X.tr S X9 z (322 + 3 * p2.toNatClampNeg) (isFlag_of h1) p1 a3 ha3) me_X3_decidingRule ml_X10_234 iv_X3_decidingRule cf_X3 dX10_decidedView_8 (memG_at (kFlag (isFlag_of h1)).1) (rest := []) rfl rfl (by decide) (by decide) (Nat.le_of_ble_eq_true rfl) (fun v2 u23 M22 hM21 => ?_)
  subst M22
  refine j_st (st1 := [.int v2]) rfl ?_
  refine j_istore X [(5, .int v2), (0, .ref (kB κ + 0)), (1, .int p1), (2, .int p2), (3, .ref (kB κ + a3)), (4, .ref (kB κ + b4))] dX10_decidedView_11 (by decide) rfl ?_
  refine j_iload X 0 rfl dX10_decidedView_13 ?_
  refine j_iconst X (-1 : Int32) dX10_decidedView_15 (by rfl) ?_
  refine j_icmp_ne X 21 dX10_decidedView_16 (by decide) ?_ ?_
  · refine j_iconst X (0 : Int32) dX10_decidedView_19 (by rfl) ?_
    exact j_iret X dX10_decidedView_20 rfl (fun _ h => h)
  · refine j_aload_n X 1 rfl dX10_decidedView_21 rfl ?_
    refine g_getf X 2 kf_0 cf_X10 (by decide) fl_X10_25 dX10_decidedView_22 rfl rfl ?_
    refine j_iload_n X 3 rfl dX10_decidedView_25 rfl ?_
    refine g_aald X 6 8 kf_61 rfl rfl dX10_decidedView_26 rfl rfl (fun h3 => ?_)
    refine j_iload X 0 rfl dX10_decidedView_27 ?_
    refine j_call0V X 0 0 (c_X3_trialOf X.tr S X9 z (322 + 3 * p2.toNatClampNeg) (isFlag_of h3) v2) me_X3_trialOf ml_X10_331 iv_X3_trialOf cf_X3 dX10_decidedView_29 (memG_at (kFlag (isFlag_of h3)).1) (rest := []) rfl rfl (by decide) (by decide) (Nat.le_of_ble_eq_true rfl) (fun v4 u20 M19 hM18 => ?_)
    subst M19
    refine j_st (st1 := [.int v4]) rfl ?_
    refine j_istore X [(6, .int v4), (5, .int v2), (0, .ref (kB κ + 0)), (1, .int p1), (2, .int p2), (3, .ref (kB κ + a3)), (4, .ref (kB κ + b4))] dX10_decidedView_32 (by decide) rfl ?_
    refine j_iload X 0 rfl dX10_decidedView_34 ?_
    refine j_iconst X (-1 : Int32) dX10_decidedView_36 (by rfl) ?_
    refine j_join (fun k5 => ∀ (x17 : Int32), J κ 7 rm_X10_decidedView (jQf κ rm_X10_decidedView rvI (fun (S9 : Unit) M9 => M9 = memG 0 358 (kD κ) (kB κ) S X9) z) (k5 x17) (memG 0 358 (kD κ) (kB κ) S X9) z 0 0 [] 73 [.int x17]) ?_ (fun k5 hk5 => ?_)
    · intro x17
      exact j_iret X dX10_decidedView_73 rfl (fun _ h => h)
    · refine j_icmp_ne X 54 dX10_decidedView_37 (by decide) ?_ ?_
      · refine j_aload_n X 2 rfl dX10_decidedView_40 rfl ?_
        refine g_getf X 2 kf_0 cf_X10 (by decide) fl_X10_25 dX10_decidedView_41 rfl rfl ?_
        refine j_iload_n X 4 rfl dX10_decidedView_44 rfl ?_
        refine g_aald X 6 8 kf_61 rfl rfl dX10_decidedView_45 rfl rfl (fun h12 => ?_)
        refine j_iload X 1 rfl dX10_decidedView_46 ?_
        refine j_call0V X 0 0 (c_X3_outcomeOf X.tr S X9 z (322 + 3 * p2.toNatClampNeg) (isFlag_of h12) v2) me_X3_outcomeOf ml_X10_190 iv_X3_outcomeOf cf_X3 dX10_decidedView_48 (memG_at (kFlag (isFlag_of h12)).1) (rest := []) rfl rfl (by decide) (by decide) (Nat.le_of_ble_eq_true rfl) (fun v13 u16 M15 hM14 => ?_)
        subst M15
        refine j_st (st1 := [.int v13]) rfl ?_
        refine j_goto X 73 dX10_decidedView_51 (by decide) ?_
        refine j_lv [] rfl ?_
        exact hk5 v13
      · refine j_aload_n X 2 rfl dX10_decidedView_54 rfl ?_
        refine g_getf X 4 kf_0 cf_X10 (by decide) fl_X10_40 dX10_decidedView_55 rfl rfl ?_
        refine j_iload X 0 rfl dX10_decidedView_58 ?_
        refine g_aald X 7 6 kf_65 rfl rfl dX10_decidedView_60 rfl rfl (fun h6 => ?_)
        refine j_iload_n X 3 rfl dX10_decidedView_61 rfl ?_
        refine j_aload X 6 rfl dX10_decidedView_62 ?_
        refine g_getN X 0 (kPast hb4).1 cf_X5 (by decide) fn_X10_278 dX10_decidedView_64 rfl rfl ?_
        refine j_iload X 0 rfl dX10_decidedView_67 ?_
        refine g_iald X 6 (kPast hb4).2.1 (by decide) dX10_decidedView_69 (fun h11 => ?_)
        refine j_call0V X 0 0 (c_X9_armFor X.tr S X9 z (346 + 2 * v4.toNatClampNeg) (isTrial_of h6) p1 ((S (b4 + 1) v4.toNatClampNeg))) me_X9_armFor ml_X10_318 iv_X9_armFor cf_X9 dX10_decidedView_70 (memG_at (kTrial (isTrial_of h6)).1) (rest := []) rfl rfl (by decide) (by decide) (Nat.le_of_ble_eq_true rfl) (fun v7 u10 M9 hM8 => ?_)
        subst M9
        refine j_st (st1 := [.int v7]) rfl ?_
        refine j_lv [] rfl ?_
        exact hk5 v7
def f_X10_findViews (S : jS) (a1 : Nat) (p2 : Int32) (a3 : Nat) (b4 : Nat) : Option (jR jS) := loopK (fun (rec1 : jS → Int32 → Int32 → Option (jR jS)) (S2 : jS) (x3 : Int32) (x4 : Int32) => (if (8 : Int32) ≤ x4 then some (0, (0 : Int32), S2) else chk (inb x4 8) (letE ((S2 (62 + 2) x4.toNatClampNeg)) fun x5 => chk (inb x5 8) (joinK (fun (S19 : jS) => chk (inb x5 8) (joinK (fun (x21 : Int32) => jbin0 (f_X10_withBit x3 x5 x21) (fun v22 _ => letE (x4 + (1 : Int32)) fun x23 => rec1 S19 v22 x23)) (fun k20 => (if (S19 a1 x5.toNatClampNeg) = (0 : Int32) then k20 (1 : Int32) else k20 (0 : Int32))))) (fun k6 => (if (S2 (b4 + 10) x5.toNatClampNeg) = (0 : Int32) then chk (inb x5 8) ((if ((S2 (62 + 1) x5.toNatClampNeg) &&& x3) = (0 : Int32) then jbin0 (f_X10_decidedView S2 p2 x5 a3 b4) (fun v7 _ => chk (inb x5 8) (letE (jset S2 a1 x5.toNatClampNeg v7) fun S8 => k6 S8)) else chk (inb x5 8) (letE (jset S2 a1 x5.toNatClampNeg (0 : Int32)) fun S13 => k6 S13))) else chk (inb x5 8) (chk (inb x5 8) (letE (jset S2 a1 x5.toNatClampNeg ((S2 (b4 + 11) x5.toNatClampNeg))) fun S16 => k6 S16)))))))) (fun _ _ _ => none) 1000 S (0 : Int32) (0 : Int32)
abbrev rm_X10_findViews : Room := { frames := 4, cells := 0, slots := 0, locals := 98 }
set_option maxHeartbeats 4000000 in
set_option maxRecDepth 100000 in
theorem c_X10_findViews {l : Launch} {D : va_G} {B t0 : Nat} (hl9 : l.stackTraces = false) (S : jS) (X9 : jMem) (z : Nat → Prop) (a1 : Nat) (ha1 : kIn 0 358 a1 1008) (p2 : Int32) (a3 : Nat) (ha3 : kIn 0 358 a3 1006) (b4 : Nat) (hb4 : isPast b4) : jCf l D B t0 yX10_findViews cX10_findViews 8 none rm_X10_findViews [.ref (B + 0), .ref (B + a1), .int p2, .ref (B + a3), .ref (B + b4)] (memG 0 358 D B S X9) z (f_X10_findViews S a1 p2 a3 b4) rvV (fun S9 M9 => M9 = memG 0 358 D B S9 X9) z := by
  refine jC_of hl9 (me_X10_findViews).1 [(0, .ref (B + 0)), (1, .ref (B + a1)), (2, .int p2), (3, .ref (B + a3)), (4, .ref (B + b4))] ⟨by decide +kernel, Nat.le_of_ble_eq_true rfl⟩ rfl (fun κ hl hD hB hT X htab hin => ?_)
  subst hl hD hB hT
  have X : jX κ RX10 cX10_findViews 8 none := X
  unfold f_X10_findViews
  refine j_iconst X (0 : Int32) dX10_findViews_0 (by rfl) ?_
  refine j_istore X [(5, .int (0 : Int32)), (0, .ref (kB κ + 0)), (1, .ref (kB κ + a1)), (2, .int p2), (3, .ref (kB κ + a3)), (4, .ref (kB κ + b4))] dX10_findViews_1 (by decide) rfl ?_
  refine j_iconst X (0 : Int32) dX10_findViews_3 (by rfl) ?_
  refine j_istore X [(6, .int (0 : Int32)), (5, .int (0 : Int32)), (0, .ref (kB κ + 0)), (1, .ref (kB κ + a1)), (2, .int p2), (3, .ref (kB κ + a3)), (4, .ref (kB κ + b4))] dX10_findViews_4 (by decide) rfl ?_
  refine j_lv [2, 3, 4, 5, 6, 1, 0] rfl ?_
  refine j_loop (fun (k : jS → Int32 → Int32 → Option (jR jS)) => ∀ (S2 : jS) (x3 : Int32) (x4 : Int32), J κ 8 rm_X10_findViews (jQf κ rm_X10_findViews rvV (fun S9 M9 => M9 = memG 0 358 (kD κ) (kB κ) S9 X9) z) (k S2 x3 x4) (memG 0 358 (kD κ) (kB κ) S2 X9) z 0 0 [(0, .ref (kB κ + 0)), (1, .ref (kB κ + a1)), (2, .int p2), (3, .ref (kB κ + a3)), (4, .ref (kB κ + b4)), (5, .int x3), (6, .int x4)] 6 []) (fun _ _ _ => j_none) (fun rec1 hrec1 => ?_) 1000 _ _ _
  intro S2 x3 x4
  refine j_iload X 6 rfl dX10_findViews_6 ?_
  refine j_bipush X (8 : Int32) dX10_findViews_8 (by rfl) ?_
  refine j_icmp_ge X 116 dX10_findViews_10 (by decide) ?_ ?_
  · exact j_vret X dX10_findViews_116 rfl (fun _ h => h)
  · refine j_aload_n X 0 rfl dX10_findViews_13 rfl ?_
    refine g_getf X 3 kf_0 cf_X10 (by decide) fl_X10_34 dX10_findViews_14 rfl rfl ?_
    refine g_getN X 1 (kGraph isGraph_8).1 cf_X4 (by decide) fn_X10_321 dX10_findViews_17 rfl rfl ?_
    refine j_iload X 6 rfl dX10_findViews_20 ?_
    refine g_iald X 8 (kGraph isGraph_8).2.2 (by decide) dX10_findViews_22 (fun h29 => ?_)
    refine j_letE (fun x5 => ?_)
    refine j_istore X [(7, .int x5), (0, .ref (kB κ + 0)), (1, .ref (kB κ + a1)), (2, .int p2), (3, .ref (kB κ + a3)), (4, .ref (kB κ + b4)), (5, .int x3), (6, .int x4)] dX10_findViews_23 (by decide) rfl ?_
    refine j_aload X 5 rfl dX10_findViews_25 ?_
    refine g_getN X 3 (kPast hb4).1 cf_X5 (by decide) fn_X10_281 dX10_findViews_27 rfl rfl ?_
    refine j_iload X 0 rfl dX10_findViews_30 ?_
    refine g_iald X 8 (kPast hb4).2.2.2.2.1 (by decide) dX10_findViews_32 (fun h28 => ?_)
    refine j_join (fun k6 => ∀ (S19 : jS), J κ 8 rm_X10_findViews (jQf κ rm_X10_findViews rvV (fun S9 M9 => M9 = memG 0 358 (kD κ) (kB κ) S9 X9) z) (k6 S19) (memG 0 358 (kD κ) (kB κ) S19 X9) z 0 0 [(0, .ref (kB κ + 0)), (1, .ref (kB κ + a1)), (2, .int p2), (3, .ref (kB κ + a3)), (4, .ref (kB κ + b4)), (5, .int x3), (6, .int x4), (7, .int x5)] 89 []) ?_ (fun k6 hk6 => ?_)
    · intro S19
      refine j_iload X 5 rfl dX10_findViews_89 ?_
      refine j_iload X 7 rfl dX10_findViews_91 ?_
      refine j_aload_n X 1 rfl dX10_findViews_93 rfl ?_
      refine j_iload X 7 rfl dX10_findViews_94 ?_
      refine g_iald X 8 ha1 (by decide) dX10_findViews_96 (fun h27 => ?_)
      refine j_join (fun k20 => ∀ (x21 : Int32), J κ 8 rm_X10_findViews (jQf κ rm_X10_findViews rvV (fun S9 M9 => M9 = memG 0 358 (kD κ) (kB κ) S9 X9) z) (k20 x21) (memG 0 358 (kD κ) (kB κ) S19 X9) z 0 0 [(0, .ref (kB κ + 0)), (1, .ref (kB κ + a1)), (2, .int p2), (3, .ref (kB κ + a3)), (4, .ref (kB κ + b4)), (6, .int x4)] 105 [.int x21, .int x5, .int x3]) ?_ (fun k20 hk20 => ?_)
      · intro x21
        refine j_call0S X 0 0 (c_X10_withBit X.tr (memG 0 358 (kD κ) (kB κ) S19 X9) z x3 x5 x21) me_X10_withBit ml_X10_97 st_X10_withBit dX10_findViews_105 (rest := []) rfl rfl (by decide) (by decide) (Nat.le_of_ble_eq_true rfl) (fun v22 u26 M25 hM24 => ?_)
        subst M25
        refine j_st (st1 := [.int v22]) rfl ?_
        refine j_istore X [(5, .int v22), (0, .ref (kB κ + 0)), (1, .ref (kB κ + a1)), (2, .int p2), (3, .ref (kB κ + a3)), (4, .ref (kB κ + b4)), (6, .int x4)] dX10_findViews_108 (by decide) rfl ?_
        refine j_iincL X 6 (fun x23 => [(6, .int x23), (5, .int v22), (0, .ref (kB κ + 0)), (1, .ref (kB κ + a1)), (2, .int p2), (3, .ref (kB κ + a3)), (4, .ref (kB κ + b4))]) dX10_findViews_110 rfl (by rfl) (by decide) (fun _ => rfl) (fun x23 => ?_)
        refine j_goto X 6 dX10_findViews_113 (by decide) ?_
        refine j_lv [2, 3, 4, 5, 6, 1, 0] rfl ?_
        exact hrec1 S19 v22 x23
      · refine j_if_ne X 104 dX10_findViews_97 (by decide) ?_ ?_
        · refine j_iconst X (1 : Int32) dX10_findViews_100 (by rfl) ?_
          refine j_goto X 105 dX10_findViews_101 (by decide) ?_
          refine j_lv [0, 1, 2, 3, 4, 6] rfl ?_
          exact hk20 (1 : Int32)
        · refine j_iconst X (0 : Int32) dX10_findViews_104 (by rfl) ?_
          refine j_lv [0, 1, 2, 3, 4, 6] rfl ?_
          exact hk20 (0 : Int32)
    · refine j_if_eq X 51 dX10_findViews_33 (by decide) ?_ ?_
      · refine j_aload_n X 1 rfl dX10_findViews_51 rfl ?_
        refine g_getf X 3 kf_0 cf_X10 (by decide) fl_X10_34 dX10_findViews_52 rfl rfl ?_
        refine g_getN X 0 (kGraph isGraph_8).1 cf_X4 (by decide) fn_X10_198 dX10_findViews_55 rfl rfl ?_
        refine j_iload X 0 rfl dX10_findViews_58 ?_
        refine g_iald X 8 (kGraph isGraph_8).2.1 (by decide) dX10_findViews_60 (fun h15 => ?_)
        refine j_iload X 6 rfl dX10_findViews_61 ?_
        refine j_iand X dX10_findViews_63 ?_
        refine j_if_eq X 75 dX10_findViews_64 (by decide) ?_ ?_
        · refine j_aload_n X 2 rfl dX10_findViews_75 rfl ?_
          refine j_iload X 0 rfl dX10_findViews_76 ?_
          refine j_aload_n X 1 rfl dX10_findViews_78 rfl ?_
          refine j_iload_n X 3 rfl dX10_findViews_79 rfl ?_
          refine j_iload X 0 rfl dX10_findViews_80 ?_
          refine j_aload_n X 4 rfl dX10_findViews_82 rfl ?_
          refine j_aload X 5 rfl dX10_findViews_83 ?_
          refine j_call0V X 0 0 (c_X10_decidedView X.tr S2 X9 z p2 x5 a3 ha3 b4 hb4) me_X10_decidedView ml_X10_327 iv_X10_decidedView cf_X10 dX10_findViews_85 (memG_at kf_0) (rest := [.int x5, .ref (kB κ + a1)]) rfl rfl (by decide) (by decide) (Nat.le_of_ble_eq_true rfl) (fun v7 u12 M11 hM10 => ?_)
          subst M11
          refine j_st (st1 := [.int v7, .int x5, .ref (kB κ + a1)]) rfl ?_
          refine g_iast X 8 ha1 (by decide) dX10_findViews_88 (fun h9 S8 => ?_)
          refine j_lv [1, 2, 3, 4, 5, 6, 7, 0] rfl ?_
          exact hk6 S8
        · refine j_aload_n X 2 rfl dX10_findViews_67 rfl ?_
          refine j_iload X 0 rfl dX10_findViews_68 ?_
          refine j_iconst X (0 : Int32) dX10_findViews_70 (by rfl) ?_
          refine g_iast X 8 ha1 (by decide) dX10_findViews_71 (fun h14 S13 => ?_)
          refine j_goto X 89 dX10_findViews_72 (by decide) ?_
          refine j_lv [1, 2, 3, 4, 5, 6, 7, 0] rfl ?_
          exact hk6 S13
      · refine j_aload_n X 2 rfl dX10_findViews_36 rfl ?_
        refine j_iload X 0 rfl dX10_findViews_37 ?_
        refine j_aload X 5 rfl dX10_findViews_39 ?_
        refine g_getN X 4 (kPast hb4).1 cf_X5 (by decide) fn_X10_324 dX10_findViews_41 rfl rfl ?_
        refine j_iload X 0 rfl dX10_findViews_44 ?_
        refine g_iald X 8 (kPast hb4).2.2.2.2.2.1 (by decide) dX10_findViews_46 (fun h18 => ?_)
        refine g_iast X 8 ha1 (by decide) dX10_findViews_47 (fun h17 S16 => ?_)
        refine j_goto X 89 dX10_findViews_48 (by decide) ?_
        refine j_lv [1, 2, 3, 4, 5, 6, 7, 0] rfl ?_
        exact hk6 S16
def f_X10_differ (S : jS) (a0 : Nat) (a1 : Nat) : Option (jR Unit) := loopK (fun (rec1 : Int32 → Option (jR Unit)) (x2 : Int32) => (if (8 : Int32) ≤ x2 then chk (isb (0 : Int32)) (some (0, (0 : Int32), ())) else chk (inb x2 8) (chk (inb x2 8) ((if (S a0 x2.toNatClampNeg) = (S a1 x2.toNatClampNeg) then letE (x2 + (1 : Int32)) fun x3 => rec1 x3 else chk (isb (1 : Int32)) (some (0, (1 : Int32), ()))))))) (fun _ => none) 1000 (0 : Int32)
abbrev rm_X10_differ : Room := { frames := 0, cells := 0, slots := 0, locals := 0 }
set_option maxHeartbeats 4000000 in
set_option maxRecDepth 100000 in
theorem c_X10_differ {l : Launch} {D : va_G} {B t0 : Nat} (hl9 : l.stackTraces = false) (S : jS) (X9 : jMem) (z : Nat → Prop) (a0 : Nat) (ha0 : kIn 0 358 a0 1008) (a1 : Nat) (ha1 : kIn 0 358 a1 1008) : jCf l D B t0 yX10_differ cX10_differ 3 (some .boolean) rm_X10_differ [.ref (B + a0), .ref (B + a1)] (memG 0 358 D B S X9) z (f_X10_differ S a0 a1) rvI (fun (S9 : Unit) M9 => M9 = memG 0 358 D B S X9) z := by
  refine jC_of hl9 (me_X10_differ).1 [(0, .ref (B + a0)), (1, .ref (B + a1))] ⟨by decide +kernel, Nat.le_of_ble_eq_true rfl⟩ rfl (fun κ hl hD hB hT X htab hin => ?_)
  subst hl hD hB hT
  have X : jX κ RX10 cX10_differ 3 (some .boolean) := X
  unfold f_X10_differ
  refine j_iconst X (0 : Int32) dX10_differ_0 (by rfl) ?_
  refine j_istore_n X [(2, .int (0 : Int32)), (0, .ref (kB κ + a0)), (1, .ref (kB κ + a1))] dX10_differ_1 rfl (by decide) rfl ?_
  refine j_lv [1, 2, 0] rfl ?_
  refine j_loop (fun (k : Int32 → Option (jR Unit)) => ∀ (x2 : Int32), J κ 3 rm_X10_differ (jQf κ rm_X10_differ rvI (fun (S9 : Unit) M9 => M9 = memG 0 358 (kD κ) (kB κ) S X9) z) (k x2) (memG 0 358 (kD κ) (kB κ) S X9) z 0 0 [(0, .ref (kB κ + a0)), (1, .ref (kB κ + a1)), (2, .int x2)] 2 []) (fun _ => j_none) (fun rec1 hrec1 => ?_) 1000 _
  intro x2
  refine j_iload_n X 2 rfl dX10_differ_2 rfl ?_
  refine j_bipush X (8 : Int32) dX10_differ_3 (by rfl) ?_
  refine j_icmp_ge X 25 dX10_differ_5 (by decide) ?_ ?_
  · refine j_iconst X (0 : Int32) dX10_differ_25 (by rfl) ?_
    exact j_zret X dX10_differ_26 rfl (fun _ h => h)
  · refine j_aload_n X 0 rfl dX10_differ_8 rfl ?_
    refine j_iload_n X 2 rfl dX10_differ_9 rfl ?_
    refine g_iald X 8 ha0 (by decide) dX10_differ_10 (fun h5 => ?_)
    refine j_aload_n X 1 rfl dX10_differ_11 rfl ?_
    refine j_iload_n X 2 rfl dX10_differ_12 rfl ?_
    refine g_iald X 8 ha1 (by decide) dX10_differ_13 (fun h4 => ?_)
    refine j_icmp_eq X 19 dX10_differ_14 (by decide) ?_ ?_
    · refine j_iincL X 2 (fun x3 => [(2, .int x3), (0, .ref (kB κ + a0)), (1, .ref (kB κ + a1))]) dX10_differ_19 rfl (by rfl) (by decide) (fun _ => rfl) (fun x3 => ?_)
      refine j_goto X 2 dX10_differ_22 (by decide) ?_
      refine j_lv [1, 2, 0] rfl ?_
      exact hrec1 x3
    · refine j_iconst X (1 : Int32) dX10_differ_17 (by rfl) ?_
      exact j_zret X dX10_differ_18 rfl (fun _ h => h)
def f_X10_wouldMove (S : jS) (p1 : Int32) : Option (jR jS) := jbind (f_X10_checkAudience p1) (fun _ _ => jbind (f_X10_checkSettable S p1) (fun _ S1 => jbin0 (f_X0_tryDraft S1 p1) (fun _ S2 => loopK (fun (rec3 : jS → Int32 → Int32 → Option (jR jS)) (S4 : jS) (x5 : Int32) (x6 : Int32) => (if (20 : Int32) ≤ x6 then some (0, x5, S4) else chk (inb x6 20) (jbin0 (f_X10_findViews S4 80 x6 30 (82 + 12 * x6.toNatClampNeg)) (fun _ S8 => chk (inb x6 20) (jbin0 (f_X10_findViews S8 81 x6 31 (82 + 12 * x6.toNatClampNeg)) (fun _ S10 => jbin0 (f_X10_differ S10 80 81) (fun v11 _ => joinK (fun (x14 : Int32) => letE (x6 + (1 : Int32)) fun x15 => rec3 S10 x14 x15) (fun k12 => (if v11 = (0 : Int32) then k12 x5 else letE (x5 + (1 : Int32)) fun x13 => k12 x13))))))))) (fun _ _ _ => none) 1000 S2 (0 : Int32) (0 : Int32))) (fun t S9 => some (t, (0 : Int32), S9))) (fun t _ => some (t, (0 : Int32), S))
abbrev rm_X10_wouldMove : Room := { frames := 8, cells := 2, slots := 12, locals := 138 }
set_option maxHeartbeats 4000000 in
set_option maxRecDepth 100000 in
theorem c_X10_wouldMove {l : Launch} {D : va_G} {B t0 : Nat} (hl9 : l.stackTraces = false) (S : jS) (X9 : jMem) (z : Nat → Prop) (p1 : Int32) : jCf l D B t0 yX10_wouldMove cX10_wouldMove 4 (some .int) rm_X10_wouldMove [.ref (B + 0), .int p1] (memG 0 358 D B S X9) z (f_X10_wouldMove S p1) rvI (fun S9 M9 => M9 = memG 0 358 D B S9 X9) z := by
  refine jC_of hl9 (me_X10_wouldMove).1 [(0, .ref (B + 0)), (1, .int p1)] ⟨by decide +kernel, Nat.le_of_ble_eq_true rfl⟩ rfl (fun κ hl hD hB hT X htab hin => ?_)
  subst hl hD hB hT
  have X : jX κ RX10 cX10_wouldMove 4 (some .int) := X
  unfold f_X10_wouldMove
  refine j_iload_n X 1 rfl dX10_wouldMove_0 rfl ?_
  refine j_callS X 1 6 (c_X10_checkAudience X.tr (memG 0 358 (kD κ) (kB κ) S X9) z p1) me_X10_checkAudience ml_X10_101 st_X10_checkAudience htab dX10_wouldMove_1 (rest := []) rfl rfl (by decide) (by decide) (Nat.le_of_ble_eq_true rfl) (fun t S9 M9 r9 hp9 hr9 => by cases hr9; exact ⟨rfl, hp9⟩) (fun v33 u34 M32 hM31 => ?_)
  subst M32
  refine j_st (st1 := []) rfl ?_
  refine j_aload_n X 0 rfl dX10_wouldMove_4 rfl ?_
  refine j_iload_n X 1 rfl dX10_wouldMove_5 rfl ?_
  refine j_callV X 0 0 (c_X10_checkSettable X.tr S X9 z p1) me_X10_checkSettable ml_X10_146 iv_X10_checkSettable cf_X10 htab dX10_wouldMove_6 (memG_at kf_0) (rest := []) rfl rfl (by decide) (by decide) (Nat.le_of_ble_eq_true rfl) (fun t S9 M9 r9 hp9 hr9 => by cases hr9; exact ⟨rfl, hp9⟩) (fun v30 S1 M29 hM28 => ?_)
  subst M29
  refine j_st (st1 := []) rfl ?_
  refine j_aload_n X 0 rfl dX10_wouldMove_9 rfl ?_
  refine g_getf X 1 kf_0 cf_X10 (by decide) fl_X10_19 dX10_wouldMove_10 rfl rfl ?_
  refine j_iload_n X 1 rfl dX10_wouldMove_13 rfl ?_
  refine j_aload_n X 0 rfl dX10_wouldMove_14 rfl ?_
  refine g_getf X 0 kf_0 cf_X10 (by decide) fl_X10_12 dX10_wouldMove_15 rfl rfl ?_
  refine j_call0V X 0 0 (c_X0_tryDraft X.tr S1 X9 z p1) me_X0_tryDraft ml_X10_149 iv_X0_tryDraft cf_X0 dX10_wouldMove_18 (memG_at kf_24) (rest := []) rfl rfl (by decide) (by decide) (Nat.le_of_ble_eq_true rfl) (fun v27 S2 M26 hM25 => ?_)
  subst M26
  refine j_st (st1 := []) rfl ?_
  refine j_iconst X (0 : Int32) dX10_wouldMove_21 (by rfl) ?_
  refine j_istore_n X [(2, .int (0 : Int32)), (0, .ref (kB κ + 0)), (1, .int p1)] dX10_wouldMove_22 rfl (by decide) rfl ?_
  refine j_iconst X (0 : Int32) dX10_wouldMove_23 (by rfl) ?_
  refine j_istore_n X [(3, .int (0 : Int32)), (2, .int (0 : Int32)), (0, .ref (kB κ + 0)), (1, .int p1)] dX10_wouldMove_24 rfl (by decide) rfl ?_
  refine j_lv [2, 1, 0] rfl ?_
  refine j_loop (fun (k : jS → Int32 → Int32 → Option (jR jS)) => ∀ (S4 : jS) (x5 : Int32) (x6 : Int32), J κ 4 rm_X10_wouldMove (jQf κ rm_X10_wouldMove rvI (fun S9 M9 => M9 = memG 0 358 (kD κ) (kB κ) S9 X9) z) (k S4 x5 x6) (memG 0 358 (kD κ) (kB κ) S4 X9) z 0 0 [(0, .ref (kB κ + 0)), (2, .int x5), (3, .int x6)] 25 []) (fun _ _ _ => j_none) (fun rec3 hrec3 => ?_) 1000 _ _ _
  intro S4 x5 x6
  refine j_iload_n X 2 rfl dX10_wouldMove_25 rfl ?_
  refine j_bipush X (20 : Int32) dX10_wouldMove_26 (by rfl) ?_
  refine j_icmp_ge X 98 dX10_wouldMove_28 (by decide) ?_ ?_
  · refine j_iload_n X 1 rfl dX10_wouldMove_98 rfl ?_
    exact j_iret X dX10_wouldMove_99 rfl (fun _ h => h)
  · refine j_aload_n X 0 rfl dX10_wouldMove_31 rfl ?_
    refine j_aload_n X 0 rfl dX10_wouldMove_32 rfl ?_
    refine g_getf X 8 kf_0 cf_X10 (by decide) fl_X10_62 dX10_wouldMove_33 rfl rfl ?_
    refine j_iload_n X 2 rfl dX10_wouldMove_36 rfl ?_
    refine j_aload_n X 0 rfl dX10_wouldMove_37 rfl ?_
    refine g_getf X 1 kf_0 cf_X10 (by decide) fl_X10_19 dX10_wouldMove_38 rfl rfl ?_
    refine g_getN X 3 kf_24 cf_X0 (by decide) fn_X10_153 dX10_wouldMove_41 rfl rfl ?_
    refine j_aload_n X 0 rfl dX10_wouldMove_44 rfl ?_
    refine g_getf X 6 kf_0 cf_X10 (by decide) fl_X10_53 dX10_wouldMove_45 rfl rfl ?_
    refine j_iload_n X 2 rfl dX10_wouldMove_48 rfl ?_
    refine g_aald X 8 20 kf_67 rfl rfl dX10_wouldMove_49 rfl rfl (fun h7 => ?_)
    refine j_call0V X 0 0 (c_X10_findViews X.tr S4 X9 z 80 kf_80 x6 30 kf_30 (82 + 12 * x6.toNatClampNeg) (isPast_of h7)) me_X10_findViews ml_X10_167 iv_X10_findViews cf_X10 dX10_wouldMove_50 (memG_at kf_0) (rest := []) rfl rfl (by decide) (by decide) (Nat.le_of_ble_eq_true rfl) (fun v24 S8 M23 hM22 => ?_)
    subst M23
    refine j_st (st1 := []) rfl ?_
    refine j_aload_n X 0 rfl dX10_wouldMove_53 rfl ?_
    refine j_aload_n X 0 rfl dX10_wouldMove_54 rfl ?_
    refine g_getf X 9 kf_0 cf_X10 (by decide) fl_X10_66 dX10_wouldMove_55 rfl rfl ?_
    refine j_iload_n X 2 rfl dX10_wouldMove_58 rfl ?_
    refine j_aload_n X 0 rfl dX10_wouldMove_59 rfl ?_
    refine g_getf X 1 kf_0 cf_X10 (by decide) fl_X10_19 dX10_wouldMove_60 rfl rfl ?_
    refine g_getN X 4 kf_24 cf_X0 (by decide) fn_X10_156 dX10_wouldMove_63 rfl rfl ?_
    refine j_aload_n X 0 rfl dX10_wouldMove_66 rfl ?_
    refine g_getf X 6 kf_0 cf_X10 (by decide) fl_X10_53 dX10_wouldMove_67 rfl rfl ?_
    refine j_iload_n X 2 rfl dX10_wouldMove_70 rfl ?_
    refine g_aald X 8 20 kf_67 rfl rfl dX10_wouldMove_71 rfl rfl (fun h9 => ?_)
    refine j_call0V X 0 0 (c_X10_findViews X.tr S8 X9 z 81 kf_81 x6 31 kf_31 (82 + 12 * x6.toNatClampNeg) (isPast_of h9)) me_X10_findViews ml_X10_167 iv_X10_findViews cf_X10 dX10_wouldMove_72 (memG_at kf_0) (rest := []) rfl rfl (by decide) (by decide) (Nat.le_of_ble_eq_true rfl) (fun v21 S10 M20 hM19 => ?_)
    subst M20
    refine j_st (st1 := []) rfl ?_
    refine j_aload_n X 0 rfl dX10_wouldMove_75 rfl ?_
    refine g_getf X 8 kf_0 cf_X10 (by decide) fl_X10_62 dX10_wouldMove_76 rfl rfl ?_
    refine j_aload_n X 0 rfl dX10_wouldMove_79 rfl ?_
    refine g_getf X 9 kf_0 cf_X10 (by decide) fl_X10_66 dX10_wouldMove_80 rfl rfl ?_
    refine j_call0S X 0 0 (c_X10_differ X.tr S10 X9 z 80 kf_80 81 kf_81) me_X10_differ ml_X10_171 st_X10_differ dX10_wouldMove_83 (rest := []) rfl rfl (by decide) (by decide) (Nat.le_of_ble_eq_true rfl) (fun v11 u18 M17 hM16 => ?_)
    subst M17
    refine j_st (st1 := [.int v11]) rfl ?_
    refine j_join (fun k12 => ∀ (x14 : Int32), J κ 4 rm_X10_wouldMove (jQf κ rm_X10_wouldMove rvI (fun S9 M9 => M9 = memG 0 358 (kD κ) (kB κ) S9 X9) z) (k12 x14) (memG 0 358 (kD κ) (kB κ) S10 X9) z 0 0 [(0, .ref (kB κ + 0)), (2, .int x14), (3, .int x6)] 92 []) ?_ (fun k12 hk12 => ?_)
    · intro x14
      refine j_iincL X 2 (fun x15 => [(3, .int x15), (0, .ref (kB κ + 0)), (2, .int x14)]) dX10_wouldMove_92 rfl (by rfl) (by decide) (fun _ => rfl) (fun x15 => ?_)
      refine j_goto X 25 dX10_wouldMove_95 (by decide) ?_
      refine j_lv [1, 2, 0] rfl ?_
      exact hrec3 S10 x14 x15
    · refine j_if_eq X 92 dX10_wouldMove_86 (by decide) ?_ ?_
      · exact hk12 x5
      · refine j_iincL X 1 (fun x13 => [(2, .int x13), (0, .ref (kB κ + 0)), (3, .int x6)]) dX10_wouldMove_89 rfl (by rfl) (by decide) (fun _ => rfl) (fun x13 => ?_)
        refine j_lv [1, 0, 2] rfl ?_
        exact hk12 x13
def f_X10_isIn (S : jS) (p1 : Int32) (p2 : Int32) : Option (jR Unit) := jbind (f_X10_checkAudience p1) (fun _ _ => jbind (f_X10_checkPerson p2) (fun _ _ => chk (inb p1 6) (jbin0 (f_X10_hasBit (S 30 p1.toNatClampNeg) p2) (fun v1 _ => chk (isb v1) (some (0, v1, ()))))) (fun t _ => some (t, (0 : Int32), ()))) (fun t _ => some (t, (0 : Int32), ()))
abbrev rm_X10_isIn : Room := { frames := 8, cells := 2, slots := 12, locals := 132 }
set_option maxHeartbeats 4000000 in
set_option maxRecDepth 100000 in
theorem c_X10_isIn {l : Launch} {D : va_G} {B t0 : Nat} (hl9 : l.stackTraces = false) (S : jS) (X9 : jMem) (z : Nat → Prop) (p1 : Int32) (p2 : Int32) : jCf l D B t0 yX10_isIn cX10_isIn 3 (some .boolean) rm_X10_isIn [.ref (B + 0), .int p1, .int p2] (memG 0 358 D B S X9) z (f_X10_isIn S p1 p2) rvI (fun (S9 : Unit) M9 => M9 = memG 0 358 D B S X9) z := by
  refine jC_of hl9 (me_X10_isIn).1 [(0, .ref (B + 0)), (1, .int p1), (2, .int p2)] ⟨by decide +kernel, Nat.le_of_ble_eq_true rfl⟩ rfl (fun κ hl hD hB hT X htab hin => ?_)
  subst hl hD hB hT
  have X : jX κ RX10 cX10_isIn 3 (some .boolean) := X
  unfold f_X10_isIn
  refine j_iload_n X 1 rfl dX10_isIn_0 rfl ?_
  refine j_callS X 1 6 (c_X10_checkAudience X.tr (memG 0 358 (kD κ) (kB κ) S X9) z p1) me_X10_checkAudience ml_X10_101 st_X10_checkAudience htab dX10_isIn_1 (rest := []) rfl rfl (by decide) (by decide) (Nat.le_of_ble_eq_true rfl) (fun t S9 M9 r9 hp9 hr9 => by cases hr9; exact ⟨rfl, hp9⟩) (fun v12 u13 M11 hM10 => ?_)
  subst M11
  refine j_st (st1 := []) rfl ?_
  refine j_iload_n X 2 rfl dX10_isIn_4 rfl ?_
  refine j_callS X 0 0 (c_X10_checkPerson X.tr (memG 0 358 (kD κ) (kB κ) S X9) z p2) me_X10_checkPerson ml_X10_71 st_X10_checkPerson htab dX10_isIn_5 (rest := []) rfl rfl (by decide) (by decide) (Nat.le_of_ble_eq_true rfl) (fun t S9 M9 r9 hp9 hr9 => by cases hr9; exact ⟨rfl, hp9⟩) (fun v8 u9 M7 hM6 => ?_)
  subst M7
  refine j_st (st1 := []) rfl ?_
  refine j_aload_n X 0 rfl dX10_isIn_8 rfl ?_
  refine g_getf X 1 kf_0 cf_X10 (by decide) fl_X10_19 dX10_isIn_9 rfl rfl ?_
  refine g_getN X 3 kf_24 cf_X0 (by decide) fn_X10_153 dX10_isIn_12 rfl rfl ?_
  refine j_iload_n X 1 rfl dX10_isIn_15 rfl ?_
  refine g_iald X 6 kf_30 (by decide) dX10_isIn_16 (fun h5 => ?_)
  refine j_iload_n X 2 rfl dX10_isIn_17 rfl ?_
  refine j_call0S X 0 0 (c_X10_hasBit X.tr (memG 0 358 (kD κ) (kB κ) S X9) z (S 30 p1.toNatClampNeg) p2) me_X10_hasBit ml_X10_93 st_X10_hasBit dX10_isIn_18 (rest := []) rfl rfl (by decide) (by decide) (Nat.le_of_ble_eq_true rfl) (fun v1 u4 M3 hM2 => ?_)
  subst M3
  refine j_st (st1 := [.int v1]) rfl ?_
  exact j_zret X dX10_isIn_21 rfl (fun _ h => h)
def f_X10_checkFlag (p0 : Int32) : Option (jR Unit) := jbind (f_X10_checkRange p0 (0 : Int32) (7 : Int32)) (fun _ _ => some (0, (0 : Int32), ())) (fun t _ => some (t, (0 : Int32), ()))
abbrev rm_X10_checkFlag : Room := { frames := 7, cells := 1, slots := 6, locals := 112 }
set_option maxHeartbeats 4000000 in
set_option maxRecDepth 100000 in
theorem c_X10_checkFlag {l : Launch} {D : va_G} {B t0 : Nat} (hl9 : l.stackTraces = false) (M : jMem) (z : Nat → Prop) (p0 : Int32) : jCf l D B t0 yX10_checkFlag cX10_checkFlag 1 none rm_X10_checkFlag [.int p0] M z (f_X10_checkFlag p0) rvV (fun (S9 : Unit) M9 => M9 = M) z := by
  refine jC_of hl9 (me_X10_checkFlag).1 [(0, .int p0)] ⟨by decide +kernel, Nat.le_of_ble_eq_true rfl⟩ rfl (fun κ hl hD hB hT X htab hin => ?_)
  subst hl hD hB hT
  have X : jX κ RX10 cX10_checkFlag 1 none := X
  unfold f_X10_checkFlag
  refine j_iload_n X 0 rfl dX10_checkFlag_0 rfl ?_
  refine j_iconst X (0 : Int32) dX10_checkFlag_1 (by rfl) ?_
  refine j_bipush X (7 : Int32) dX10_checkFlag_2 (by rfl) ?_
  refine j_callS X 0 0 (c_X10_checkRange X.tr M z p0 (0 : Int32) (7 : Int32)) me_X10_checkRange ml_X10_74 st_X10_checkRange htab dX10_checkFlag_4 (rest := []) rfl rfl (by decide) (by decide) (Nat.le_of_ble_eq_true rfl) (fun t S9 M9 r9 hp9 hr9 => by cases hr9; exact ⟨rfl, hp9⟩) (fun v3 u4 M2 hM1 => ?_)
  subst M2
  refine j_st (st1 := []) rfl ?_
  exact j_vret X dX10_checkFlag_7 rfl (fun _ h => h)
def f_X10_addRule (S : jS) (p1 : Int32) (p2 : Int32) (p3 : Int32) (p4 : Int32) : Option (jR jS) := jbind (f_X10_checkFlag p1) (fun _ _ => jbind (f_X10_checkAudience p3) (fun _ _ => jbind (f_X10_checkRange p4 (0 : Int32) (9 : Int32)) (fun _ _ => chk (inb p1 8) (joinK (fun (_ : Unit) => some (3, (0 : Int32), S)) (fun k2 => (if p2 < (0 : Int32) then k2 () else (if p2 ≤ (S (322 + 3 * p1.toNatClampNeg) 2) then (if (S (322 + 3 * p1.toNatClampNeg) 2) < (5 : Int32) then jbin0 (f_X3_insert S (322 + 3 * p1.toNatClampNeg) p2 p3 p4) (fun _ S3 => some (0, (S3 (322 + 3 * p1.toNatClampNeg) 2), S3)) else some (2, (0 : Int32), S)) else k2 ()))))) (fun t _ => some (t, (0 : Int32), S))) (fun t _ => some (t, (0 : Int32), S))) (fun t _ => some (t, (0 : Int32), S))
abbrev rm_X10_addRule : Room := { frames := 8, cells := 4, slots := 24, locals := 132 }
set_option maxHeartbeats 4000000 in
set_option maxRecDepth 100000 in
theorem c_X10_addRule {l : Launch} {D : va_G} {B t0 : Nat} (hl9 : l.stackTraces = false) (S : jS) (X9 : jMem) (z : Nat → Prop) (p1 : Int32) (p2 : Int32) (p3 : Int32) (p4 : Int32) : jCf l D B t0 yX10_addRule cX10_addRule 6 (some .int) rm_X10_addRule [.ref (B + 0), .int p1, .int p2, .int p3, .int p4] (memG 0 358 D B S X9) z (f_X10_addRule S p1 p2 p3 p4) rvI (fun S9 M9 => M9 = memG 0 358 D B S9 X9) z := by
  refine jC_of hl9 (me_X10_addRule).1 [(0, .ref (B + 0)), (1, .int p1), (2, .int p2), (3, .int p3), (4, .int p4)] ⟨by decide +kernel, Nat.le_of_ble_eq_true rfl⟩ rfl (fun κ hl hD hB hT X htab hin => ?_)
  subst hl hD hB hT
  have X : jX κ RX10 cX10_addRule 6 (some .int) := X
  unfold f_X10_addRule
  refine j_iload_n X 1 rfl dX10_addRule_0 rfl ?_
  refine j_callS X 3 18 (c_X10_checkFlag X.tr (memG 0 358 (kD κ) (kB κ) S X9) z p1) me_X10_checkFlag ml_X10_175 st_X10_checkFlag htab dX10_addRule_1 (rest := []) rfl rfl (by decide) (by decide) (Nat.le_of_ble_eq_true rfl) (fun t S9 M9 r9 hp9 hr9 => by cases hr9; exact ⟨rfl, hp9⟩) (fun v17 u18 M16 hM15 => ?_)
  subst M16
  refine j_st (st1 := []) rfl ?_
  refine j_iload_n X 3 rfl dX10_addRule_4 rfl ?_
  refine j_callS X 2 12 (c_X10_checkAudience X.tr (memG 0 358 (kD κ) (kB κ) S X9) z p3) me_X10_checkAudience ml_X10_101 st_X10_checkAudience htab dX10_addRule_5 (rest := []) rfl rfl (by decide) (by decide) (Nat.le_of_ble_eq_true rfl) (fun t S9 M9 r9 hp9 hr9 => by cases hr9; exact ⟨rfl, hp9⟩) (fun v13 u14 M12 hM11 => ?_)
  subst M12
  refine j_st (st1 := []) rfl ?_
  refine j_iload X 4 rfl dX10_addRule_8 ?_
  refine j_iconst X (0 : Int32) dX10_addRule_10 (by rfl) ?_
  refine j_bipush X (9 : Int32) dX10_addRule_11 (by rfl) ?_
  refine j_callS X 1 6 (c_X10_checkRange X.tr (memG 0 358 (kD κ) (kB κ) S X9) z p4 (0 : Int32) (9 : Int32)) me_X10_checkRange ml_X10_74 st_X10_checkRange htab dX10_addRule_13 (rest := []) rfl rfl (by decide) (by decide) (Nat.le_of_ble_eq_true rfl) (fun t S9 M9 r9 hp9 hr9 => by cases hr9; exact ⟨rfl, hp9⟩) (fun v9 u10 M8 hM7 => ?_)
  subst M8
  refine j_st (st1 := []) rfl ?_
  refine j_aload_n X 0 rfl dX10_addRule_16 rfl ?_
  refine g_getf X 2 kf_0 cf_X10 (by decide) fl_X10_25 dX10_addRule_17 rfl rfl ?_
  refine j_iload_n X 1 rfl dX10_addRule_20 rfl ?_
  refine g_aald X 6 8 kf_61 rfl rfl dX10_addRule_21 rfl rfl (fun h1 => ?_)
  refine j_astore X [(5, .ref (kB κ + (322 + 3 * p1.toNatClampNeg))), (0, .ref (kB κ + 0)), (1, .int p1), (2, .int p2), (3, .int p3), (4, .int p4)] dX10_addRule_22 (by decide) rfl ?_
  refine j_iload_n X 3 rfl dX10_addRule_24 rfl ?_
  refine j_join (fun k2 => ∀ (_ : Unit), J κ 6 rm_X10_addRule (jQf κ rm_X10_addRule rvI (fun S9 M9 => M9 = memG 0 358 (kD κ) (kB κ) S9 X9) z) (k2 ()) (memG 0 358 (kD κ) (kB κ) S X9) z 1 6 [] 37 []) ?_ (fun k2 hk2 => ?_)
  · intro _
    exact j_throw X th_X10_3_135_139 sr_X10_181 htab dX10_addRule_37 dX10_addRule_40 dX10_addRule_41 dX10_addRule_43 dX10_addRule_46 (by decide) (by decide) rfl
  · refine j_if_lt X 37 dX10_addRule_25 (by decide) ?_ ?_
    · refine j_lv [] rfl ?_
      exact hk2 ()
    · refine j_iload_n X 3 rfl dX10_addRule_28 rfl ?_
      refine j_aload X 0 rfl dX10_addRule_29 ?_
      refine g_getN X 2 (kFlag (isFlag_of h1)).1 cf_X3 (by decide) fn_X10_178 dX10_addRule_31 rfl rfl ?_
      refine j_icmp_le X 47 dX10_addRule_34 (by decide) ?_ ?_
      · refine j_aload X 0 rfl dX10_addRule_47 ?_
        refine g_getN X 2 (kFlag (isFlag_of h1)).1 cf_X3 (by decide) fn_X10_178 dX10_addRule_49 rfl rfl ?_
        refine j_iconst X (5 : Int32) dX10_addRule_52 (by rfl) ?_
        refine j_icmp_lt X 66 dX10_addRule_53 (by decide) ?_ ?_
        · refine j_aload X 0 rfl dX10_addRule_66 ?_
          refine j_iload_n X 3 rfl dX10_addRule_68 rfl ?_
          refine j_iload_n X 4 rfl dX10_addRule_69 rfl ?_
          refine j_iload X 5 rfl dX10_addRule_70 ?_
          refine j_call0V X 1 6 (c_X3_insert X.tr S X9 z (322 + 3 * p1.toNatClampNeg) (isFlag_of h1) p2 p3 p4) me_X3_insert ml_X10_185 iv_X3_insert cf_X3 dX10_addRule_72 (memG_at (kFlag (isFlag_of h1)).1) (rest := []) rfl rfl (by decide) (by decide) (Nat.le_of_ble_eq_true rfl) (fun v6 S3 M5 hM4 => ?_)
          subst M5
          refine j_st (st1 := []) rfl ?_
          refine j_aload X 0 rfl dX10_addRule_75 ?_
          refine g_getN X 2 (kFlag (isFlag_of h1)).1 cf_X3 (by decide) fn_X10_178 dX10_addRule_77 rfl rfl ?_
          exact j_iret X dX10_addRule_80 rfl (fun _ h => h)
        · exact j_throw X th_X10_2_114_118 sr_X10_183 htab dX10_addRule_56 dX10_addRule_59 dX10_addRule_60 dX10_addRule_62 dX10_addRule_65 (by decide) (by decide) rfl
      · refine j_lv [] rfl ?_
        exact hk2 ()
def f_X10_removeRule (S : jS) (p1 : Int32) (p2 : Int32) : Option (jR jS) := jbind (f_X10_checkFlag p1) (fun _ _ => chk (inb p1 8) (joinK (fun (_ : Unit) => some (3, (0 : Int32), S)) (fun k2 => (if p2 < (0 : Int32) then k2 () else (if p2 < (S (322 + 3 * p1.toNatClampNeg) 2) then jbin0 (f_X3_outcomeOf S (322 + 3 * p1.toNatClampNeg) p2) (fun v3 _ => jbin0 (f_X3_delete S (322 + 3 * p1.toNatClampNeg) p2) (fun _ S4 => some (0, v3, S4))) else k2 ()))))) (fun t _ => some (t, (0 : Int32), S))
abbrev rm_X10_removeRule : Room := { frames := 8, cells := 2, slots := 12, locals := 132 }
set_option maxHeartbeats 4000000 in
set_option maxRecDepth 100000 in
theorem c_X10_removeRule {l : Launch} {D : va_G} {B t0 : Nat} (hl9 : l.stackTraces = false) (S : jS) (X9 : jMem) (z : Nat → Prop) (p1 : Int32) (p2 : Int32) : jCf l D B t0 yX10_removeRule cX10_removeRule 5 (some .int) rm_X10_removeRule [.ref (B + 0), .int p1, .int p2] (memG 0 358 D B S X9) z (f_X10_removeRule S p1 p2) rvI (fun S9 M9 => M9 = memG 0 358 D B S9 X9) z := by
  refine jC_of hl9 (me_X10_removeRule).1 [(0, .ref (B + 0)), (1, .int p1), (2, .int p2)] ⟨by decide +kernel, Nat.le_of_ble_eq_true rfl⟩ rfl (fun κ hl hD hB hT X htab hin => ?_)
  subst hl hD hB hT
  have X : jX κ RX10 cX10_removeRule 5 (some .int) := X
  unfold f_X10_removeRule
  refine j_iload_n X 1 rfl dX10_removeRule_0 rfl ?_
  refine j_callS X 1 6 (c_X10_checkFlag X.tr (memG 0 358 (kD κ) (kB κ) S X9) z p1) me_X10_checkFlag ml_X10_175 st_X10_checkFlag htab dX10_removeRule_1 (rest := []) rfl rfl (by decide) (by decide) (Nat.le_of_ble_eq_true rfl) (fun t S9 M9 r9 hp9 hr9 => by cases hr9; exact ⟨rfl, hp9⟩) (fun v13 u14 M12 hM11 => ?_)
  subst M12
  refine j_st (st1 := []) rfl ?_
  refine j_aload_n X 0 rfl dX10_removeRule_4 rfl ?_
  refine g_getf X 2 kf_0 cf_X10 (by decide) fl_X10_25 dX10_removeRule_5 rfl rfl ?_
  refine j_iload_n X 1 rfl dX10_removeRule_8 rfl ?_
  refine g_aald X 6 8 kf_61 rfl rfl dX10_removeRule_9 rfl rfl (fun h1 => ?_)
  refine j_astore_n X [(3, .ref (kB κ + (322 + 3 * p1.toNatClampNeg))), (0, .ref (kB κ + 0)), (1, .int p1), (2, .int p2)] dX10_removeRule_10 rfl (by decide) rfl ?_
  refine j_iload_n X 3 rfl dX10_removeRule_11 rfl ?_
  refine j_join (fun k2 => ∀ (_ : Unit), J κ 5 rm_X10_removeRule (jQf κ rm_X10_removeRule rvI (fun S9 M9 => M9 = memG 0 358 (kD κ) (kB κ) S9 X9) z) (k2 ()) (memG 0 358 (kD κ) (kB κ) S X9) z 1 6 [] 23 []) ?_ (fun k2 hk2 => ?_)
  · intro _
    exact j_throw X th_X10_3_135_139 sr_X10_188 htab dX10_removeRule_23 dX10_removeRule_26 dX10_removeRule_27 dX10_removeRule_29 dX10_removeRule_32 (by decide) (by decide) rfl
  · refine j_if_lt X 23 dX10_removeRule_12 (by decide) ?_ ?_
    · refine j_lv [] rfl ?_
      exact hk2 ()
    · refine j_iload_n X 3 rfl dX10_removeRule_15 rfl ?_
      refine j_aload_n X 0 rfl dX10_removeRule_16 rfl ?_
      refine g_getN X 2 (kFlag (isFlag_of h1)).1 cf_X3 (by decide) fn_X10_178 dX10_removeRule_17 rfl rfl ?_
      refine j_icmp_lt X 33 dX10_removeRule_20 (by decide) ?_ ?_
      · refine j_aload_n X 0 rfl dX10_removeRule_33 rfl ?_
        refine j_iload_n X 3 rfl dX10_removeRule_34 rfl ?_
        refine j_call0V X 1 6 (c_X3_outcomeOf X.tr S X9 z (322 + 3 * p1.toNatClampNeg) (isFlag_of h1) p2) me_X3_outcomeOf ml_X10_190 iv_X3_outcomeOf cf_X3 dX10_removeRule_35 (memG_at (kFlag (isFlag_of h1)).1) (rest := []) rfl rfl (by decide) (by decide) (Nat.le_of_ble_eq_true rfl) (fun v3 u10 M9 hM8 => ?_)
        subst M9
        refine j_st (st1 := [.int v3]) rfl ?_
        refine j_istore X [(4, .int v3), (3, .ref (kB κ + (322 + 3 * p1.toNatClampNeg))), (0, .ref (kB κ + 0)), (1, .int p1), (2, .int p2)] dX10_removeRule_38 (by decide) rfl ?_
        refine j_aload_n X 1 rfl dX10_removeRule_40 rfl ?_
        refine j_iload_n X 4 rfl dX10_removeRule_41 rfl ?_
        refine j_call0V X 1 6 (c_X3_delete X.tr S X9 z (322 + 3 * p1.toNatClampNeg) (isFlag_of h1) p2) me_X3_delete ml_X10_193 iv_X3_delete cf_X3 dX10_removeRule_42 (memG_at (kFlag (isFlag_of h1)).1) (rest := []) rfl rfl (by decide) (by decide) (Nat.le_of_ble_eq_true rfl) (fun v7 S4 M6 hM5 => ?_)
        subst M6
        refine j_st (st1 := []) rfl ?_
        refine j_iload X 0 rfl dX10_removeRule_45 ?_
        exact j_iret X dX10_removeRule_47 rfl (fun _ h => h)
      · refine j_lv [] rfl ?_
        exact hk2 ()
def f_X10_rules (S : jS) (p1 : Int32) : Option (jR Unit) := jbind (f_X10_checkFlag p1) (fun _ _ => chk (inb p1 8) (some (0, (S (322 + 3 * p1.toNatClampNeg) 2), ()))) (fun t _ => some (t, (0 : Int32), ()))
abbrev rm_X10_rules : Room := { frames := 8, cells := 1, slots := 6, locals := 132 }
set_option maxHeartbeats 4000000 in
set_option maxRecDepth 100000 in
theorem c_X10_rules {l : Launch} {D : va_G} {B t0 : Nat} (hl9 : l.stackTraces = false) (S : jS) (X9 : jMem) (z : Nat → Prop) (p1 : Int32) : jCf l D B t0 yX10_rules cX10_rules 2 (some .int) rm_X10_rules [.ref (B + 0), .int p1] (memG 0 358 D B S X9) z (f_X10_rules S p1) rvI (fun (S9 : Unit) M9 => M9 = memG 0 358 D B S X9) z := by
  refine jC_of hl9 (me_X10_rules).1 [(0, .ref (B + 0)), (1, .int p1)] ⟨by decide +kernel, Nat.le_of_ble_eq_true rfl⟩ rfl (fun κ hl hD hB hT X htab hin => ?_)
  subst hl hD hB hT
  have X : jX κ RX10 cX10_rules 2 (some .int) := X
  unfold f_X10_rules
  refine j_iload_n X 1 rfl dX10_rules_0 rfl ?_
  refine j_callS X 0 0 (c_X10_checkFlag X.tr (memG 0 358 (kD κ) (kB κ) S X9) z p1) me_X10_checkFlag ml_X10_175 st_X10_checkFlag htab dX10_rules_1 (rest := []) rfl rfl (by decide) (by decide) (Nat.le_of_ble_eq_true rfl) (fun t S9 M9 r9 hp9 hr9 => by cases hr9; exact ⟨rfl, hp9⟩) (fun v4 u5 M3 hM2 => ?_)
  subst M3
  refine j_st (st1 := []) rfl ?_
  refine j_aload_n X 0 rfl dX10_rules_4 rfl ?_
  refine g_getf X 2 kf_0 cf_X10 (by decide) fl_X10_25 dX10_rules_5 rfl rfl ?_
  refine j_iload_n X 1 rfl dX10_rules_8 rfl ?_
  refine g_aald X 6 8 kf_61 rfl rfl dX10_rules_9 rfl rfl (fun h1 => ?_)
  refine g_getN X 2 (kFlag (isFlag_of h1)).1 cf_X3 (by decide) fn_X10_178 dX10_rules_10 rfl rfl ?_
  exact j_iret X dX10_rules_13 rfl (fun _ h => h)
def f_X10_setNeed (S : jS) (p1 : Int32) (p2 : Int32) (p3 : Int32) : Option (jR jS) := jbind (f_X10_checkFlag p1) (fun _ _ => jbind (f_X10_checkFlag p2) (fun _ _ => (if p1 = p2 then some (1, (0 : Int32), S) else chk (inb p1 8) (letE ((S (62 + 1) p1.toNatClampNeg)) fun x1 => jbin0 (f_X10_withBit x1 p2 p3) (fun v2 _ => joinK (fun (_ : Unit) => jbin0 (f_X4_point S 62 8 p1 v2) (fun _ S8 => jbin0 (f_X10_hasBit x1 p2) (fun v9 _ => chk (isb v9) (some (0, v9, S8))))) (fun k3 => (if p3 = (0 : Int32) then k3 () else jbin0 (f_X4_wouldLoop S 62 8 p1 v2) (fun v4 _ => (if v4 = (0 : Int32) then k3 () else some (2, (0 : Int32), S))))))))) (fun t _ => some (t, (0 : Int32), S))) (fun t _ => some (t, (0 : Int32), S))
abbrev rm_X10_setNeed : Room := { frames := 8, cells := 3, slots := 18, locals := 132 }
set_option maxHeartbeats 4000000 in
set_option maxRecDepth 100000 in
theorem c_X10_setNeed {l : Launch} {D : va_G} {B t0 : Nat} (hl9 : l.stackTraces = false) (S : jS) (X9 : jMem) (z : Nat → Prop) (p1 : Int32) (p2 : Int32) (p3 : Int32) : jCf l D B t0 yX10_setNeed cX10_setNeed 6 (some .boolean) rm_X10_setNeed [.ref (B + 0), .int p1, .int p2, .int p3] (memG 0 358 D B S X9) z (f_X10_setNeed S p1 p2 p3) rvI (fun S9 M9 => M9 = memG 0 358 D B S9 X9) z := by
  refine jC_of hl9 (me_X10_setNeed).1 [(0, .ref (B + 0)), (1, .int p1), (2, .int p2), (3, .int p3)] ⟨by decide +kernel, Nat.le_of_ble_eq_true rfl⟩ rfl (fun κ hl hD hB hT X htab hin => ?_)
  subst hl hD hB hT
  have X : jX κ RX10 cX10_setNeed 6 (some .boolean) := X
  unfold f_X10_setNeed
  refine j_iload_n X 1 rfl dX10_setNeed_0 rfl ?_
  refine j_callS X 2 12 (c_X10_checkFlag X.tr (memG 0 358 (kD κ) (kB κ) S X9) z p1) me_X10_checkFlag ml_X10_175 st_X10_checkFlag htab dX10_setNeed_1 (rest := []) rfl rfl (by decide) (by decide) (Nat.le_of_ble_eq_true rfl) (fun t S9 M9 r9 hp9 hr9 => by cases hr9; exact ⟨rfl, hp9⟩) (fun v26 u27 M25 hM24 => ?_)
  subst M25
  refine j_st (st1 := []) rfl ?_
  refine j_iload_n X 2 rfl dX10_setNeed_4 rfl ?_
  refine j_callS X 1 6 (c_X10_checkFlag X.tr (memG 0 358 (kD κ) (kB κ) S X9) z p2) me_X10_checkFlag ml_X10_175 st_X10_checkFlag htab dX10_setNeed_5 (rest := []) rfl rfl (by decide) (by decide) (Nat.le_of_ble_eq_true rfl) (fun t S9 M9 r9 hp9 hr9 => by cases hr9; exact ⟨rfl, hp9⟩) (fun v22 u23 M21 hM20 => ?_)
  subst M21
  refine j_st (st1 := []) rfl ?_
  refine j_iload_n X 1 rfl dX10_setNeed_8 rfl ?_
  refine j_iload_n X 2 rfl dX10_setNeed_9 rfl ?_
  refine j_icmp_ne X 23 dX10_setNeed_10 (by decide) ?_ ?_
  · exact j_throw X th_X10_1_124_128 sr_X10_196 htab dX10_setNeed_13 dX10_setNeed_16 dX10_setNeed_17 dX10_setNeed_19 dX10_setNeed_22 (by decide) (by decide) rfl
  · refine j_aload_n X 0 rfl dX10_setNeed_23 rfl ?_
    refine g_getf X 3 kf_0 cf_X10 (by decide) fl_X10_34 dX10_setNeed_24 rfl rfl ?_
    refine g_getN X 0 (kGraph isGraph_8).1 cf_X4 (by decide) fn_X10_198 dX10_setNeed_27 rfl rfl ?_
    refine j_iload_n X 1 rfl dX10_setNeed_30 rfl ?_
    refine g_iald X 8 (kGraph isGraph_8).2.1 (by decide) dX10_setNeed_31 (fun h19 => ?_)
    refine j_letE (fun x1 => ?_)
    refine j_istore X [(4, .int x1), (0, .ref (kB κ + 0)), (1, .int p1), (2, .int p2), (3, .int p3)] dX10_setNeed_32 (by decide) rfl ?_
    refine j_iload X 0 rfl dX10_setNeed_34 ?_
    refine j_iload_n X 3 rfl dX10_setNeed_36 rfl ?_
    refine j_iload_n X 4 rfl dX10_setNeed_37 rfl ?_
    refine j_call0S X 1 6 (c_X10_withBit X.tr (memG 0 358 (kD κ) (kB κ) S X9) z x1 p2 p3) me_X10_withBit ml_X10_97 st_X10_withBit dX10_setNeed_38 (rest := []) rfl rfl (by decide) (by decide) (Nat.le_of_ble_eq_true rfl) (fun v2 u18 M17 hM16 => ?_)
    subst M17
    refine j_st (st1 := [.int v2]) rfl ?_
    refine j_istore X [(5, .int v2), (4, .int x1), (0, .ref (kB κ + 0)), (1, .int p1), (2, .int p2), (3, .int p3)] dX10_setNeed_41 (by decide) rfl ?_
    refine j_iload_n X 5 rfl dX10_setNeed_43 rfl ?_
    refine j_join (fun k3 => ∀ (_ : Unit), J κ 6 rm_X10_setNeed (jQf κ rm_X10_setNeed rvI (fun S9 M9 => M9 = memG 0 358 (kD κ) (kB κ) S9 X9) z) (k3 ()) (memG 0 358 (kD κ) (kB κ) S X9) z 1 6 [(0, .ref (kB κ + 0)), (1, .int p1), (2, .int p2), (4, .int x1), (5, .int v2)] 70 []) ?_ (fun k3 hk3 => ?_)
    · intro _
      refine j_aload_n X 0 rfl dX10_setNeed_70 rfl ?_
      refine g_getf X 3 kf_0 cf_X10 (by decide) fl_X10_34 dX10_setNeed_71 rfl rfl ?_
      refine j_iload_n X 1 rfl dX10_setNeed_74 rfl ?_
      refine j_iload X 4 rfl dX10_setNeed_75 ?_
      refine j_call0V X 1 6 (c_X4_point X.tr S X9 z 62 8 isGraph_8 p1 v2) me_X4_point ml_X10_206 iv_X4_point cf_X4 dX10_setNeed_77 (memG_at (kGraph isGraph_8).1) (rest := []) rfl rfl (by decide) (by decide) (Nat.le_of_ble_eq_true rfl) (fun v15 S8 M14 hM13 => ?_)
      subst M14
      refine j_st (st1 := []) rfl ?_
      refine j_iload X 3 rfl dX10_setNeed_80 ?_
      refine j_iload_n X 2 rfl dX10_setNeed_82 rfl ?_
      refine j_call0S X 1 6 (c_X10_hasBit X.tr (memG 0 358 (kD κ) (kB κ) S8 X9) z x1 p2) me_X10_hasBit ml_X10_93 st_X10_hasBit dX10_setNeed_83 (rest := []) rfl rfl (by decide) (by decide) (Nat.le_of_ble_eq_true rfl) (fun v9 u12 M11 hM10 => ?_)
      subst M11
      refine j_st (st1 := [.int v9]) rfl ?_
      exact j_zret X dX10_setNeed_86 rfl (fun _ h => h)
    · refine j_if_eq X 70 dX10_setNeed_44 (by decide) ?_ ?_
      · refine j_lv [2, 3, 4, 1, 0] rfl ?_
        exact hk3 ()
      · refine j_aload_n X 2 rfl dX10_setNeed_47 rfl ?_
        refine g_getf X 3 kf_0 cf_X10 (by decide) fl_X10_34 dX10_setNeed_48 rfl rfl ?_
        refine j_iload_n X 3 rfl dX10_setNeed_51 rfl ?_
        refine j_iload X 0 rfl dX10_setNeed_52 ?_
        refine j_call0V X 1 6 (c_X4_wouldLoop X.tr S X9 z 62 8 isGraph_8 p1 v2) me_X4_wouldLoop ml_X10_201 iv_X4_wouldLoop cf_X4 dX10_setNeed_54 (memG_at (kGraph isGraph_8).1) (rest := []) rfl rfl (by decide) (by decide) (Nat.le_of_ble_eq_true rfl) (fun v4 u7 M6 hM5 => ?_)
        subst M6
        refine j_st (st1 := [.int v4]) rfl ?_
        refine j_if_eq X 70 dX10_setNeed_57 (by decide) ?_ ?_
        · refine j_lv [2, 3, 4, 1, 0] rfl ?_
          exact hk3 ()
        · exact j_throw X th_X10_2_114_118 sr_X10_204 htab dX10_setNeed_60 dX10_setNeed_63 dX10_setNeed_64 dX10_setNeed_66 dX10_setNeed_69 (by decide) (by decide) rfl
def f_X10_viewNow (S : jS) (p1 : Int32) (p2 : Int32) : Option (jR jS) := chk (inb p1 20) (jbin0 (f_X10_findViews S 80 p1 30 (82 + 12 * p1.toNatClampNeg)) (fun _ S2 => chk (inb p2 8) (some (0, (S2 80 p2.toNatClampNeg), S2))))
abbrev rm_X10_viewNow : Room := { frames := 5, cells := 0, slots := 0, locals := 125 }
set_option maxHeartbeats 4000000 in
set_option maxRecDepth 100000 in
theorem c_X10_viewNow {l : Launch} {D : va_G} {B t0 : Nat} (hl9 : l.stackTraces = false) (S : jS) (X9 : jMem) (z : Nat → Prop) (p1 : Int32) (p2 : Int32) : jCf l D B t0 yX10_viewNow cX10_viewNow 3 (some .int) rm_X10_viewNow [.ref (B + 0), .int p1, .int p2] (memG 0 358 D B S X9) z (f_X10_viewNow S p1 p2) rvI (fun S9 M9 => M9 = memG 0 358 D B S9 X9) z := by
  refine jC_of hl9 (me_X10_viewNow).1 [(0, .ref (B + 0)), (1, .int p1), (2, .int p2)] ⟨by decide +kernel, Nat.le_of_ble_eq_true rfl⟩ rfl (fun κ hl hD hB hT X htab hin => ?_)
  subst hl hD hB hT
  have X : jX κ RX10 cX10_viewNow 3 (some .int) := X
  unfold f_X10_viewNow
  refine j_aload_n X 0 rfl dX10_viewNow_0 rfl ?_
  refine j_aload_n X 0 rfl dX10_viewNow_1 rfl ?_
  refine g_getf X 8 kf_0 cf_X10 (by decide) fl_X10_62 dX10_viewNow_2 rfl rfl ?_
  refine j_iload_n X 1 rfl dX10_viewNow_5 rfl ?_
  refine j_aload_n X 0 rfl dX10_viewNow_6 rfl ?_
  refine g_getf X 1 kf_0 cf_X10 (by decide) fl_X10_19 dX10_viewNow_7 rfl rfl ?_
  refine g_getN X 3 kf_24 cf_X0 (by decide) fn_X10_153 dX10_viewNow_10 rfl rfl ?_
  refine j_aload_n X 0 rfl dX10_viewNow_13 rfl ?_
  refine g_getf X 6 kf_0 cf_X10 (by decide) fl_X10_53 dX10_viewNow_14 rfl rfl ?_
  refine j_iload_n X 1 rfl dX10_viewNow_17 rfl ?_
  refine g_aald X 8 20 kf_67 rfl rfl dX10_viewNow_18 rfl rfl (fun h1 => ?_)
  refine j_call0V X 0 0 (c_X10_findViews X.tr S X9 z 80 kf_80 p1 30 kf_30 (82 + 12 * p1.toNatClampNeg) (isPast_of h1)) me_X10_findViews ml_X10_167 iv_X10_findViews cf_X10 dX10_viewNow_19 (memG_at kf_0) (rest := []) rfl rfl (by decide) (by decide) (Nat.le_of_ble_eq_true rfl) (fun v6 S2 M5 hM4 => ?_)
  subst M5
  refine j_st (st1 := []) rfl ?_
  refine j_aload_n X 0 rfl dX10_viewNow_22 rfl ?_
  refine g_getf X 8 kf_0 cf_X10 (by decide) fl_X10_62 dX10_viewNow_23 rfl rfl ?_
  refine j_iload_n X 2 rfl dX10_viewNow_26 rfl ?_
  refine g_iald X 8 kf_80 (by decide) dX10_viewNow_27 (fun h3 => ?_)
  exact j_iret X dX10_viewNow_28 rfl (fun _ h => h)
def f_X10_view (S : jS) (p1 : Int32) (p2 : Int32) : Option (jR jS) := jbind (f_X10_checkPerson p1) (fun _ _ => jbind (f_X10_checkFlag p2) (fun _ _ => jbin0 (f_X10_viewNow S p1 p2) (fun v1 S2 => some (0, v1, S2))) (fun t _ => some (t, (0 : Int32), S))) (fun t _ => some (t, (0 : Int32), S))
abbrev rm_X10_view : Room := { frames := 8, cells := 2, slots := 12, locals := 147 }
set_option maxHeartbeats 4000000 in
set_option maxRecDepth 100000 in
theorem c_X10_view {l : Launch} {D : va_G} {B t0 : Nat} (hl9 : l.stackTraces = false) (S : jS) (X9 : jMem) (z : Nat → Prop) (p1 : Int32) (p2 : Int32) : jCf l D B t0 yX10_view cX10_view 3 (some .int) rm_X10_view [.ref (B + 0), .int p1, .int p2] (memG 0 358 D B S X9) z (f_X10_view S p1 p2) rvI (fun S9 M9 => M9 = memG 0 358 D B S9 X9) z := by
  refine jC_of hl9 (me_X10_view).1 [(0, .ref (B + 0)), (1, .int p1), (2, .int p2)] ⟨by decide +kernel, Nat.le_of_ble_eq_true rfl⟩ rfl (fun κ hl hD hB hT X htab hin => ?_)
  subst hl hD hB hT
  have X : jX κ RX10 cX10_view 3 (some .int) := X
  unfold f_X10_view
  refine j_iload_n X 1 rfl dX10_view_0 rfl ?_
  refine j_callS X 1 6 (c_X10_checkPerson X.tr (memG 0 358 (kD κ) (kB κ) S X9) z p1) me_X10_checkPerson ml_X10_71 st_X10_checkPerson htab dX10_view_1 (rest := []) rfl rfl (by decide) (by decide) (Nat.le_of_ble_eq_true rfl) (fun t S9 M9 r9 hp9 hr9 => by cases hr9; exact ⟨rfl, hp9⟩) (fun v11 u12 M10 hM9 => ?_)
  subst M10
  refine j_st (st1 := []) rfl ?_
  refine j_iload_n X 2 rfl dX10_view_4 rfl ?_
  refine j_callS X 0 0 (c_X10_checkFlag X.tr (memG 0 358 (kD κ) (kB κ) S X9) z p2) me_X10_checkFlag ml_X10_175 st_X10_checkFlag htab dX10_view_5 (rest := []) rfl rfl (by decide) (by decide) (Nat.le_of_ble_eq_true rfl) (fun t S9 M9 r9 hp9 hr9 => by cases hr9; exact ⟨rfl, hp9⟩) (fun v7 u8 M6 hM5 => ?_)
  subst M6
  refine j_st (st1 := []) rfl ?_
  refine j_aload_n X 0 rfl dX10_view_8 rfl ?_
  refine j_iload_n X 1 rfl dX10_view_9 rfl ?_
  refine j_iload_n X 2 rfl dX10_view_10 rfl ?_
  refine j_call0V X 0 0 (c_X10_viewNow X.tr S X9 z p1 p2) me_X10_viewNow ml_X10_210 iv_X10_viewNow cf_X10 dX10_view_11 (memG_at kf_0) (rest := []) rfl rfl (by decide) (by decide) (Nat.le_of_ble_eq_true rfl) (fun v1 S2 M4 hM3 => ?_)
  subst M4
  refine j_st (st1 := [.int v1]) rfl ?_
  exact j_iret X dX10_view_14 rfl (fun _ h => h)
def f_X10_ruleFor (S : jS) (p1 : Int32) (p2 : Int32) : Option (jR Unit) := jbind (f_X10_checkPerson p1) (fun _ _ => jbind (f_X10_checkFlag p2) (fun _ _ => chk (inb p2 8) (jbin0 (f_X3_decidingRule S (322 + 3 * p2.toNatClampNeg) p1 30) (fun v2 _ => some (0, v2, ())))) (fun t _ => some (t, (0 : Int32), ()))) (fun t _ => some (t, (0 : Int32), ()))
abbrev rm_X10_ruleFor : Room := { frames := 8, cells := 2, slots := 12, locals := 132 }
set_option maxHeartbeats 4000000 in
set_option maxRecDepth 100000 in
theorem c_X10_ruleFor {l : Launch} {D : va_G} {B t0 : Nat} (hl9 : l.stackTraces = false) (S : jS) (X9 : jMem) (z : Nat → Prop) (p1 : Int32) (p2 : Int32) : jCf l D B t0 yX10_ruleFor cX10_ruleFor 3 (some .int) rm_X10_ruleFor [.ref (B + 0), .int p1, .int p2] (memG 0 358 D B S X9) z (f_X10_ruleFor S p1 p2) rvI (fun (S9 : Unit) M9 => M9 = memG 0 358 D B S X9) z := by
  refine jC_of hl9 (me_X10_ruleFor).1 [(0, .ref (B + 0)), (1, .int p1), (2, .int p2)] ⟨by decide +kernel, Nat.le_of_ble_eq_true rfl⟩ rfl (fun κ hl hD hB hT X htab hin => ?_)
  subst hl hD hB hT
  have X : jX κ RX10 cX10_ruleFor 3 (some .int) := X
  unfold f_X10_ruleFor
  refine j_iload_n X 1 rfl dX10_ruleFor_0 rfl ?_
  refine j_callS X 1 6 (c_X10_checkPerson X.tr (memG 0 358 (kD κ) (kB κ) S X9) z p1) me_X10_checkPerson ml_X10_71 st_X10_checkPerson htab dX10_ruleFor_1 (rest := []) rfl rfl (by decide) (by decide) (Nat.le_of_ble_eq_true rfl) (fun t S9 M9 r9 hp9 hr9 => by cases hr9; exact ⟨rfl, hp9⟩) (fun v12 u13 M11 hM10 => ?_)
  subst M11
  refine j_st (st1 := []) rfl ?_
  refine j_iload_n X 2 rfl dX10_ruleFor_4 rfl ?_
  refine j_callS X 0 0 (c_X10_checkFlag X.tr (memG 0 358 (kD κ) (kB κ) S X9) z p2) me_X10_checkFlag ml_X10_175 st_X10_checkFlag htab dX10_ruleFor_5 (rest := []) rfl rfl (by decide) (by decide) (Nat.le_of_ble_eq_true rfl) (fun t S9 M9 r9 hp9 hr9 => by cases hr9; exact ⟨rfl, hp9⟩) (fun v8 u9 M7 hM6 => ?_)
  subst M7
  refine j_st (st1 := []) rfl ?_
  refine j_aload_n X 0 rfl dX10_ruleFor_8 rfl ?_
  refine g_getf X 2 kf_0 cf_X10 (by decide) fl_X10_25 dX10_ruleFor_9 rfl rfl ?_
  refine j_iload_n X 2 rfl dX10_ruleFor_12 rfl ?_
  refine g_aald X 6 8 kf_61 rfl rfl dX10_ruleFor_13 rfl rfl (fun h1 => ?_)
  refine j_iload_n X 1 rfl dX10_ruleFor_14 rfl ?_
  refine j_aload_n X 0 rfl dX10_ruleFor_15 rfl ?_
  refine g_getf X 1 kf_0 cf_X10 (by decide) fl_X10_19 dX10_ruleFor_16 rfl rfl ?_
  refine g_getN X 3 kf_24 cf_X0 (by decide) fn_X10_153 dX10_ruleFor_19 rfl rfl ?_
  refine j_call0V X 0 0 (c_X3_decidingRule X.tr S X9 z (322 + 3 * p2.toNatClampNeg) (isFlag_of h1) p1 30 kf_30) me_X3_decidingRule ml_X10_234 iv_X3_decidingRule cf_X3 dX10_ruleFor_22 (memG_at (kFlag (isFlag_of h1)).1) (rest := []) rfl rfl (by decide) (by decide) (Nat.le_of_ble_eq_true rfl) (fun v2 u5 M4 hM3 => ?_)
  subst M4
  refine j_st (st1 := [.int v2]) rfl ?_
  exact j_iret X dX10_ruleFor_25 rfl (fun _ h => h)
def f_X10_checkVariant (p0 : Int32) : Option (jR Unit) := jbind (f_X10_checkRange p0 (0 : Int32) (3 : Int32)) (fun _ _ => some (0, (0 : Int32), ())) (fun t _ => some (t, (0 : Int32), ()))
abbrev rm_X10_checkVariant : Room := { frames := 7, cells := 1, slots := 6, locals := 112 }
set_option maxHeartbeats 4000000 in
set_option maxRecDepth 100000 in
theorem c_X10_checkVariant {l : Launch} {D : va_G} {B t0 : Nat} (hl9 : l.stackTraces = false) (M : jMem) (z : Nat → Prop) (p0 : Int32) : jCf l D B t0 yX10_checkVariant cX10_checkVariant 1 none rm_X10_checkVariant [.int p0] M z (f_X10_checkVariant p0) rvV (fun (S9 : Unit) M9 => M9 = M) z := by
  refine jC_of hl9 (me_X10_checkVariant).1 [(0, .int p0)] ⟨by decide +kernel, Nat.le_of_ble_eq_true rfl⟩ rfl (fun κ hl hD hB hT X htab hin => ?_)
  subst hl hD hB hT
  have X : jX κ RX10 cX10_checkVariant 1 none := X
  unfold f_X10_checkVariant
  refine j_iload_n X 0 rfl dX10_checkVariant_0 rfl ?_
  refine j_iconst X (0 : Int32) dX10_checkVariant_1 (by rfl) ?_
  refine j_iconst X (3 : Int32) dX10_checkVariant_2 (by rfl) ?_
  refine j_callS X 0 0 (c_X10_checkRange X.tr M z p0 (0 : Int32) (3 : Int32)) me_X10_checkRange ml_X10_74 st_X10_checkRange htab dX10_checkVariant_3 (rest := []) rfl rfl (by decide) (by decide) (Nat.le_of_ble_eq_true rfl) (fun t S9 M9 r9 hp9 hr9 => by cases hr9; exact ⟨rfl, hp9⟩) (fun v3 u4 M2 hM1 => ?_)
  subst M2
  refine j_st (st1 := []) rfl ?_
  exact j_vret X dX10_checkVariant_6 rfl (fun _ h => h)
def f_X10_reach (S : jS) (p1 : Int32) (p2 : Int32) : Option (jR jS) := jbind (f_X10_checkFlag p1) (fun _ _ => jbind (f_X10_checkVariant p2) (fun _ _ => loopK (fun (rec1 : jS → Int32 → Int32 → Option (jR jS)) (S2 : jS) (x3 : Int32) (x4 : Int32) => (if (20 : Int32) ≤ x4 then some (0, x3, S2) else jbin0 (f_X10_viewNow S2 x4 p1) (fun v5 S6 => joinK (fun (x9 : Int32) => letE (x4 + (1 : Int32)) fun x10 => rec1 S6 x9 x10) (fun k7 => (if v5 = p2 then letE (x3 + (1 : Int32)) fun x8 => k7 x8 else k7 x3))))) (fun _ _ _ => none) 1000 S (0 : Int32) (0 : Int32)) (fun t _ => some (t, (0 : Int32), S))) (fun t _ => some (t, (0 : Int32), S))
abbrev rm_X10_reach : Room := { frames := 8, cells := 2, slots := 12, locals := 147 }
set_option maxHeartbeats 4000000 in
set_option maxRecDepth 100000 in
theorem c_X10_reach {l : Launch} {D : va_G} {B t0 : Nat} (hl9 : l.stackTraces = false) (S : jS) (X9 : jMem) (z : Nat → Prop) (p1 : Int32) (p2 : Int32) : jCf l D B t0 yX10_reach cX10_reach 5 (some .int) rm_X10_reach [.ref (B + 0), .int p1, .int p2] (memG 0 358 D B S X9) z (f_X10_reach S p1 p2) rvI (fun S9 M9 => M9 = memG 0 358 D B S9 X9) z := by
  refine jC_of hl9 (me_X10_reach).1 [(0, .ref (B + 0)), (1, .int p1), (2, .int p2)] ⟨by decide +kernel, Nat.le_of_ble_eq_true rfl⟩ rfl (fun κ hl hD hB hT X htab hin => ?_)
  subst hl hD hB hT
  have X : jX κ RX10 cX10_reach 5 (some .int) := X
  unfold f_X10_reach
  refine j_iload_n X 1 rfl dX10_reach_0 rfl ?_
  refine j_callS X 1 6 (c_X10_checkFlag X.tr (memG 0 358 (kD κ) (kB κ) S X9) z p1) me_X10_checkFlag ml_X10_175 st_X10_checkFlag htab dX10_reach_1 (rest := []) rfl rfl (by decide) (by decide) (Nat.le_of_ble_eq_true rfl) (fun t S9 M9 r9 hp9 hr9 => by cases hr9; exact ⟨rfl, hp9⟩) (fun v19 u20 M18 hM17 => ?_)
  subst M18
  refine j_st (st1 := []) rfl ?_
  refine j_iload_n X 2 rfl dX10_reach_4 rfl ?_
  refine j_callS X 0 0 (c_X10_checkVariant X.tr (memG 0 358 (kD κ) (kB κ) S X9) z p2) me_X10_checkVariant ml_X10_238 st_X10_checkVariant htab dX10_reach_5 (rest := []) rfl rfl (by decide) (by decide) (Nat.le_of_ble_eq_true rfl) (fun t S9 M9 r9 hp9 hr9 => by cases hr9; exact ⟨rfl, hp9⟩) (fun v15 u16 M14 hM13 => ?_)
  subst M14
  refine j_st (st1 := []) rfl ?_
  refine j_iconst X (0 : Int32) dX10_reach_8 (by rfl) ?_
  refine j_istore_n X [(3, .int (0 : Int32)), (0, .ref (kB κ + 0)), (1, .int p1), (2, .int p2)] dX10_reach_9 rfl (by decide) rfl ?_
  refine j_iconst X (0 : Int32) dX10_reach_10 (by rfl) ?_
  refine j_istore X [(4, .int (0 : Int32)), (3, .int (0 : Int32)), (0, .ref (kB κ + 0)), (1, .int p1), (2, .int p2)] dX10_reach_11 (by decide) rfl ?_
  refine j_lv [2, 3, 4, 1, 0] rfl ?_
  refine j_loop (fun (k : jS → Int32 → Int32 → Option (jR jS)) => ∀ (S2 : jS) (x3 : Int32) (x4 : Int32), J κ 5 rm_X10_reach (jQf κ rm_X10_reach rvI (fun S9 M9 => M9 = memG 0 358 (kD κ) (kB κ) S9 X9) z) (k S2 x3 x4) (memG 0 358 (kD κ) (kB κ) S2 X9) z 0 0 [(0, .ref (kB κ + 0)), (1, .int p1), (2, .int p2), (3, .int x3), (4, .int x4)] 13 []) (fun _ _ _ => j_none) (fun rec1 hrec1 => ?_) 1000 _ _ _
  intro S2 x3 x4
  refine j_iload X 4 rfl dX10_reach_13 ?_
  refine j_bipush X (20 : Int32) dX10_reach_15 (by rfl) ?_
  refine j_icmp_ge X 40 dX10_reach_17 (by decide) ?_ ?_
  · refine j_iload_n X 3 rfl dX10_reach_40 rfl ?_
    exact j_iret X dX10_reach_41 rfl (fun _ h => h)
  · refine j_aload_n X 0 rfl dX10_reach_20 rfl ?_
    refine j_iload X 4 rfl dX10_reach_21 ?_
    refine j_iload_n X 1 rfl dX10_reach_23 rfl ?_
    refine j_call0V X 0 0 (c_X10_viewNow X.tr S2 X9 z x4 p1) me_X10_viewNow ml_X10_210 iv_X10_viewNow cf_X10 dX10_reach_24 (memG_at kf_0) (rest := []) rfl rfl (by decide) (by decide) (Nat.le_of_ble_eq_true rfl) (fun v5 S6 M12 hM11 => ?_)
    subst M12
    refine j_st (st1 := [.int v5]) rfl ?_
    refine j_iload_n X 2 rfl dX10_reach_27 rfl ?_
    refine j_join (fun k7 => ∀ (x9 : Int32), J κ 5 rm_X10_reach (jQf κ rm_X10_reach rvI (fun S9 M9 => M9 = memG 0 358 (kD κ) (kB κ) S9 X9) z) (k7 x9) (memG 0 358 (kD κ) (kB κ) S6 X9) z 0 0 [(0, .ref (kB κ + 0)), (1, .int p1), (2, .int p2), (3, .int x9), (4, .int x4)] 34 []) ?_ (fun k7 hk7 => ?_)
    · intro x9
      refine j_iincL X 4 (fun x10 => [(4, .int x10), (0, .ref (kB κ + 0)), (1, .int p1), (2, .int p2), (3, .int x9)]) dX10_reach_34 rfl (by rfl) (by decide) (fun _ => rfl) (fun x10 => ?_)
      refine j_goto X 13 dX10_reach_37 (by decide) ?_
      refine j_lv [1, 2, 3, 4, 0] rfl ?_
      exact hrec1 S6 x9 x10
    · refine j_icmp_ne X 34 dX10_reach_28 (by decide) ?_ ?_
      · refine j_iincL X 3 (fun x8 => [(3, .int x8), (0, .ref (kB κ + 0)), (1, .int p1), (2, .int p2), (4, .int x4)]) dX10_reach_31 rfl (by rfl) (by decide) (fun _ => rfl) (fun x8 => ?_)
        refine j_lv [1, 2, 3, 0, 4] rfl ?_
        exact hk7 x8
      · exact hk7 x3
def f_X10_checkTrial (p0 : Int32) : Option (jR Unit) := jbind (f_X10_checkRange p0 (0 : Int32) (5 : Int32)) (fun _ _ => some (0, (0 : Int32), ())) (fun t _ => some (t, (0 : Int32), ()))
abbrev rm_X10_checkTrial : Room := { frames := 7, cells := 1, slots := 6, locals := 112 }
set_option maxHeartbeats 4000000 in
set_option maxRecDepth 100000 in
theorem c_X10_checkTrial {l : Launch} {D : va_G} {B t0 : Nat} (hl9 : l.stackTraces = false) (M : jMem) (z : Nat → Prop) (p0 : Int32) : jCf l D B t0 yX10_checkTrial cX10_checkTrial 1 none rm_X10_checkTrial [.int p0] M z (f_X10_checkTrial p0) rvV (fun (S9 : Unit) M9 => M9 = M) z := by
  refine jC_of hl9 (me_X10_checkTrial).1 [(0, .int p0)] ⟨by decide +kernel, Nat.le_of_ble_eq_true rfl⟩ rfl (fun κ hl hD hB hT X htab hin => ?_)
  subst hl hD hB hT
  have X : jX κ RX10 cX10_checkTrial 1 none := X
  unfold f_X10_checkTrial
  refine j_iload_n X 0 rfl dX10_checkTrial_0 rfl ?_
  refine j_iconst X (0 : Int32) dX10_checkTrial_1 (by rfl) ?_
  refine j_iconst X (5 : Int32) dX10_checkTrial_2 (by rfl) ?_
  refine j_callS X 0 0 (c_X10_checkRange X.tr M z p0 (0 : Int32) (5 : Int32)) me_X10_checkRange ml_X10_74 st_X10_checkRange htab dX10_checkTrial_3 (rest := []) rfl rfl (by decide) (by decide) (Nat.le_of_ble_eq_true rfl) (fun t S9 M9 r9 hp9 hr9 => by cases hr9; exact ⟨rfl, hp9⟩) (fun v3 u4 M2 hM1 => ?_)
  subst M2
  refine j_st (st1 := []) rfl ?_
  exact j_vret X dX10_checkTrial_6 rfl (fun _ h => h)
def f_X10_checkNotHeld (S : jS) (p1 : Int32) : Option (jR Unit) := chk (inb p1 6) ((if (S (346 + 2 * p1.toNatClampNeg) 3) = (0 : Int32) then some (0, (0 : Int32), ()) else some (2, (0 : Int32), ())))
abbrev rm_X10_checkNotHeld : Room := { frames := 6, cells := 1, slots := 6, locals := 90 }
set_option maxHeartbeats 4000000 in
set_option maxRecDepth 100000 in
theorem c_X10_checkNotHeld {l : Launch} {D : va_G} {B t0 : Nat} (hl9 : l.stackTraces = false) (S : jS) (X9 : jMem) (z : Nat → Prop) (p1 : Int32) : jCf l D B t0 yX10_checkNotHeld cX10_checkNotHeld 2 none rm_X10_checkNotHeld [.ref (B + 0), .int p1] (memG 0 358 D B S X9) z (f_X10_checkNotHeld S p1) rvV (fun (S9 : Unit) M9 => M9 = memG 0 358 D B S X9) z := by
  refine jC_of hl9 (me_X10_checkNotHeld).1 [(0, .ref (B + 0)), (1, .int p1)] ⟨by decide +kernel, Nat.le_of_ble_eq_true rfl⟩ rfl (fun κ hl hD hB hT X htab hin => ?_)
  subst hl hD hB hT
  have X : jX κ RX10 cX10_checkNotHeld 2 none := X
  unfold f_X10_checkNotHeld
  refine j_aload_n X 0 rfl dX10_checkNotHeld_0 rfl ?_
  refine g_getf X 4 kf_0 cf_X10 (by decide) fl_X10_40 dX10_checkNotHeld_1 rfl rfl ?_
  refine j_iload_n X 1 rfl dX10_checkNotHeld_4 rfl ?_
  refine g_aald X 7 6 kf_65 rfl rfl dX10_checkNotHeld_5 rfl rfl (fun h1 => ?_)
  refine g_getN X 3 (kTrial (isTrial_of h1)).1 cf_X9 (by decide) fn_X10_288 dX10_checkNotHeld_6 rfl rfl ?_
  refine j_if_eq X 23 dX10_checkNotHeld_9 (by decide) ?_ ?_
  · exact j_vret X dX10_checkNotHeld_23 rfl (fun _ h => h)
  · exact j_throwW X th_X10_2_114_118 sr_X10_310 htab dX10_checkNotHeld_12 dX10_checkNotHeld_15 dX10_checkNotHeld_16 dX10_checkNotHeld_19 dX10_checkNotHeld_22 (by decide) (by decide) rfl
def f_X10_setShares (S : jS) (p1 : Int32) (p2 : Int32) (p3 : Int32) (p4 : Int32) (p5 : Int32) : Option (jR jS) := jbind (f_X10_checkTrial p1) (fun _ _ => jbind (f_X10_checkRange p2 (0 : Int32) (100 : Int32)) (fun _ _ => jbind (f_X10_checkRange p3 (0 : Int32) (100 : Int32)) (fun _ _ => jbind (f_X10_checkRange p4 (0 : Int32) (100 : Int32)) (fun _ _ => jbind (f_X10_checkRange p5 (0 : Int32) (100 : Int32)) (fun _ _ => jbind (f_X10_checkNotHeld S p1) (fun _ _ => chk (inb p1 6) (jbin0 (f_X9_sumOfShares S (346 + 2 * p1.toNatClampNeg)) (fun v2 _ => chk (inb p1 6) (jbin0 (f_X9_share S (346 + 2 * p1.toNatClampNeg) p2 p3 p4 p5) (fun _ S4 => some (0, v2, S4)))))) (fun t _ => some (t, (0 : Int32), S))) (fun t _ => some (t, (0 : Int32), S))) (fun t _ => some (t, (0 : Int32), S))) (fun t _ => some (t, (0 : Int32), S))) (fun t _ => some (t, (0 : Int32), S))) (fun t _ => some (t, (0 : Int32), S))
abbrev rm_X10_setShares : Room := { frames := 8, cells := 6, slots := 36, locals := 132 }
set_option maxHeartbeats 4000000 in
set_option maxRecDepth 100000 in
theorem c_X10_setShares {l : Launch} {D : va_G} {B t0 : Nat} (hl9 : l.stackTraces = false) (S : jS) (X9 : jMem) (z : Nat → Prop) (p1 : Int32) (p2 : Int32) (p3 : Int32) (p4 : Int32) (p5 : Int32) : jCf l D B t0 yX10_setShares cX10_setShares 7 (some .int) rm_X10_setShares [.ref (B + 0), .int p1, .int p2, .int p3, .int p4, .int p5] (memG 0 358 D B S X9) z (f_X10_setShares S p1 p2 p3 p4 p5) rvI (fun S9 M9 => M9 = memG 0 358 D B S9 X9) z := by
  refine jC_of hl9 (me_X10_setShares).1 [(0, .ref (B + 0)), (1, .int p1), (2, .int p2), (3, .int p3), (4, .int p4), (5, .int p5)] ⟨by decide +kernel, Nat.le_of_ble_eq_true rfl⟩ rfl (fun κ hl hD hB hT X htab hin => ?_)
  subst hl hD hB hT
  have X : jX κ RX10 cX10_setShares 7 (some .int) := X
  unfold f_X10_setShares
  refine j_iload_n X 1 rfl dX10_setShares_0 rfl ?_
  refine j_callS X 5 30 (c_X10_checkTrial X.tr (memG 0 358 (kD κ) (kB κ) S X9) z p1) me_X10_checkTrial ml_X10_256 st_X10_checkTrial htab dX10_setShares_1 (rest := []) rfl rfl (by decide) (by decide) (Nat.le_of_ble_eq_true rfl) (fun t S9 M9 r9 hp9 hr9 => by cases hr9; exact ⟨rfl, hp9⟩) (fun v33 u34 M32 hM31 => ?_)
  subst M32
  refine j_st (st1 := []) rfl ?_
  refine j_iload_n X 2 rfl dX10_setShares_4 rfl ?_
  refine j_iconst X (0 : Int32) dX10_setShares_5 (by rfl) ?_
  refine j_bipush X (100 : Int32) dX10_setShares_6 (by rfl) ?_
  refine j_callS X 4 24 (c_X10_checkRange X.tr (memG 0 358 (kD κ) (kB κ) S X9) z p2 (0 : Int32) (100 : Int32)) me_X10_checkRange ml_X10_74 st_X10_checkRange htab dX10_setShares_8 (rest := []) rfl rfl (by decide) (by decide) (Nat.le_of_ble_eq_true rfl) (fun t S9 M9 r9 hp9 hr9 => by cases hr9; exact ⟨rfl, hp9⟩) (fun v29 u30 M28 hM27 => ?_)
  subst M28
  refine j_st (st1 := []) rfl ?_
  refine j_iload_n X 3 rfl dX10_setShares_11 rfl ?_
  refine j_iconst X (0 : Int32) dX10_setShares_12 (by rfl) ?_
  refine j_bipush X (100 : Int32) dX10_setShares_13 (by rfl) ?_
  refine j_callS X 3 18 (c_X10_checkRange X.tr (memG 0 358 (kD κ) (kB κ) S X9) z p3 (0 : Int32) (100 : Int32)) me_X10_checkRange ml_X10_74 st_X10_checkRange htab dX10_setShares_15 (rest := []) rfl rfl (by decide) (by decide) (Nat.le_of_ble_eq_true rfl) (fun t S9 M9 r9 hp9 hr9 => by cases hr9; exact ⟨rfl, hp9⟩) (fun v25 u26 M24 hM23 => ?_)
  subst M24
  refine j_st (st1 := []) rfl ?_
  refine j_iload X 4 rfl dX10_setShares_18 ?_
  refine j_iconst X (0 : Int32) dX10_setShares_20 (by rfl) ?_
  refine j_bipush X (100 : Int32) dX10_setShares_21 (by rfl) ?_
  refine j_callS X 2 12 (c_X10_checkRange X.tr (memG 0 358 (kD κ) (kB κ) S X9) z p4 (0 : Int32) (100 : Int32)) me_X10_checkRange ml_X10_74 st_X10_checkRange htab dX10_setShares_23 (rest := []) rfl rfl (by decide) (by decide) (Nat.le_of_ble_eq_true rfl) (fun t S9 M9 r9 hp9 hr9 => by cases hr9; exact ⟨rfl, hp9⟩) (fun v21 u22 M20 hM19 => ?_)
  subst M20
  refine j_st (st1 := []) rfl ?_
  refine j_iload X 5 rfl dX10_setShares_26 ?_
  refine j_iconst X (0 : Int32) dX10_setShares_28 (by rfl) ?_
  refine j_bipush X (100 : Int32) dX10_setShares_29 (by rfl) ?_
  refine j_callS X 1 6 (c_X10_checkRange X.tr (memG 0 358 (kD κ) (kB κ) S X9) z p5 (0 : Int32) (100 : Int32)) me_X10_checkRange ml_X10_74 st_X10_checkRange htab dX10_setShares_31 (rest := []) rfl rfl (by decide) (by decide) (Nat.le_of_ble_eq_true rfl) (fun t S9 M9 r9 hp9 hr9 => by cases hr9; exact ⟨rfl, hp9⟩) (fun v17 u18 M16 hM15 => ?_)
  subst M16
  refine j_st (st1 := []) rfl ?_
  refine j_aload_n X 0 rfl dX10_setShares_34 rfl ?_
  refine j_iload_n X 1 rfl dX10_setShares_35 rfl ?_
  refine j_callV X 0 0 (c_X10_checkNotHeld X.tr S X9 z p1) me_X10_checkNotHeld ml_X10_259 iv_X10_checkNotHeld cf_X10 htab dX10_setShares_36 (memG_at kf_0) (rest := []) rfl rfl (by decide) (by decide) (Nat.le_of_ble_eq_true rfl) (fun t S9 M9 r9 hp9 hr9 => by cases hr9; exact ⟨rfl, hp9⟩) (fun v13 u14 M12 hM11 => ?_)
  subst M12
  refine j_st (st1 := []) rfl ?_
  refine j_aload_n X 0 rfl dX10_setShares_39 rfl ?_
  refine g_getf X 4 kf_0 cf_X10 (by decide) fl_X10_40 dX10_setShares_40 rfl rfl ?_
  refine j_iload_n X 1 rfl dX10_setShares_43 rfl ?_
  refine g_aald X 7 6 kf_65 rfl rfl dX10_setShares_44 rfl rfl (fun h1 => ?_)
  refine j_call0V X 0 0 (c_X9_sumOfShares X.tr S X9 z (346 + 2 * p1.toNatClampNeg) (isTrial_of h1)) me_X9_sumOfShares ml_X10_262 iv_X9_sumOfShares cf_X9 dX10_setShares_45 (memG_at (kTrial (isTrial_of h1)).1) (rest := []) rfl rfl (by decide) (by decide) (Nat.le_of_ble_eq_true rfl) (fun v2 u10 M9 hM8 => ?_)
  subst M9
  refine j_st (st1 := [.int v2]) rfl ?_
  refine j_istore X [(6, .int v2), (0, .ref (kB κ + 0)), (1, .int p1), (2, .int p2), (3, .int p3), (4, .int p4), (5, .int p5)] dX10_setShares_48 (by decide) rfl ?_
  refine j_aload_n X 1 rfl dX10_setShares_50 rfl ?_
  refine g_getf X 4 kf_0 cf_X10 (by decide) fl_X10_40 dX10_setShares_51 rfl rfl ?_
  refine j_iload_n X 2 rfl dX10_setShares_54 rfl ?_
  refine g_aald X 7 6 kf_65 rfl rfl dX10_setShares_55 rfl rfl (fun h3 => ?_)
  refine j_iload_n X 3 rfl dX10_setShares_56 rfl ?_
  refine j_iload_n X 4 rfl dX10_setShares_57 rfl ?_
  refine j_iload X 5 rfl dX10_setShares_58 ?_
  refine j_iload X 6 rfl dX10_setShares_60 ?_
  refine j_call0V X 0 0 (c_X9_share X.tr S X9 z (346 + 2 * p1.toNatClampNeg) (isTrial_of h3) p2 p3 p4 p5) me_X9_share ml_X10_265 iv_X9_share cf_X9 dX10_setShares_62 (memG_at (kTrial (isTrial_of h3)).1) (rest := []) rfl rfl (by decide) (by decide) (Nat.le_of_ble_eq_true rfl) (fun v7 S4 M6 hM5 => ?_)
  subst M6
  refine j_st (st1 := []) rfl ?_
  refine j_iload X 0 rfl dX10_setShares_65 ?_
  exact j_iret X dX10_setShares_67 rfl (fun _ h => h)
def f_X10_setSalt (S : jS) (p1 : Int32) (p2 : Int32) : Option (jR jS) := jbind (f_X10_checkTrial p1) (fun _ _ => jbind (f_X10_checkRange p2 (0 : Int32) (1000 : Int32)) (fun _ _ => jbind (f_X10_checkNotHeld S p1) (fun _ _ => chk (inb p1 6) (letE ((S (346 + 2 * p1.toNatClampNeg) 1)) fun x2 => chk (inb p1 6) (letE (jset S (346 + 2 * p1.toNatClampNeg) 1 p2) fun S4 => some (0, x2, S4)))) (fun t _ => some (t, (0 : Int32), S))) (fun t _ => some (t, (0 : Int32), S))) (fun t _ => some (t, (0 : Int32), S))
abbrev rm_X10_setSalt : Room := { frames := 8, cells := 3, slots := 18, locals := 132 }
set_option maxHeartbeats 4000000 in
set_option maxRecDepth 100000 in
theorem c_X10_setSalt {l : Launch} {D : va_G} {B t0 : Nat} (hl9 : l.stackTraces = false) (S : jS) (X9 : jMem) (z : Nat → Prop) (p1 : Int32) (p2 : Int32) : jCf l D B t0 yX10_setSalt cX10_setSalt 4 (some .int) rm_X10_setSalt [.ref (B + 0), .int p1, .int p2] (memG 0 358 D B S X9) z (f_X10_setSalt S p1 p2) rvI (fun S9 M9 => M9 = memG 0 358 D B S9 X9) z := by
  refine jC_of hl9 (me_X10_setSalt).1 [(0, .ref (B + 0)), (1, .int p1), (2, .int p2)] ⟨by decide +kernel, Nat.le_of_ble_eq_true rfl⟩ rfl (fun κ hl hD hB hT X htab hin => ?_)
  subst hl hD hB hT
  have X : jX κ RX10 cX10_setSalt 4 (some .int) := X
  unfold f_X10_setSalt
  refine j_iload_n X 1 rfl dX10_setSalt_0 rfl ?_
  refine j_callS X 2 12 (c_X10_checkTrial X.tr (memG 0 358 (kD κ) (kB κ) S X9) z p1) me_X10_checkTrial ml_X10_256 st_X10_checkTrial htab dX10_setSalt_1 (rest := []) rfl rfl (by decide) (by decide) (Nat.le_of_ble_eq_true rfl) (fun t S9 M9 r9 hp9 hr9 => by cases hr9; exact ⟨rfl, hp9⟩) (fun v15 u16 M14 hM13 => ?_)
  subst M14
  refine j_st (st1 := []) rfl ?_
  refine j_iload_n X 2 rfl dX10_setSalt_4 rfl ?_
  refine j_iconst X (0 : Int32) dX10_setSalt_5 (by rfl) ?_
  refine j_sipush X (1000 : Int32) dX10_setSalt_6 (by rfl) ?_
  refine j_callS X 1 6 (c_X10_checkRange X.tr (memG 0 358 (kD κ) (kB κ) S X9) z p2 (0 : Int32) (1000 : Int32)) me_X10_checkRange ml_X10_74 st_X10_checkRange htab dX10_setSalt_9 (rest := []) rfl rfl (by decide) (by decide) (Nat.le_of_ble_eq_true rfl) (fun t S9 M9 r9 hp9 hr9 => by cases hr9; exact ⟨rfl, hp9⟩) (fun v11 u12 M10 hM9 => ?_)
  subst M10
  refine j_st (st1 := []) rfl ?_
  refine j_aload_n X 0 rfl dX10_setSalt_12 rfl ?_
  refine j_iload_n X 1 rfl dX10_setSalt_13 rfl ?_
  refine j_callV X 0 0 (c_X10_checkNotHeld X.tr S X9 z p1) me_X10_checkNotHeld ml_X10_259 iv_X10_checkNotHeld cf_X10 htab dX10_setSalt_14 (memG_at kf_0) (rest := []) rfl rfl (by decide) (by decide) (Nat.le_of_ble_eq_true rfl) (fun t S9 M9 r9 hp9 hr9 => by cases hr9; exact ⟨rfl, hp9⟩) (fun v7 u8 M6 hM5 => ?_)
  subst M6
  refine j_st (st1 := []) rfl ?_
  refine j_aload_n X 0 rfl dX10_setSalt_17 rfl ?_
  refine g_getf X 4 kf_0 cf_X10 (by decide) fl_X10_40 dX10_setSalt_18 rfl rfl ?_
  refine j_iload_n X 1 rfl dX10_setSalt_21 rfl ?_
  refine g_aald X 7 6 kf_65 rfl rfl dX10_setSalt_22 rfl rfl (fun h1 => ?_)
  refine g_getN X 1 (kTrial (isTrial_of h1)).1 cf_X9 (by decide) fn_X10_269 dX10_setSalt_23 rfl rfl ?_
  refine j_letE (fun x2 => ?_)
  refine j_istore_n X [(3, .int x2), (0, .ref (kB κ + 0)), (1, .int p1), (2, .int p2)] dX10_setSalt_26 rfl (by decide) rfl ?_
  refine j_aload_n X 1 rfl dX10_setSalt_27 rfl ?_
  refine g_getf X 4 kf_0 cf_X10 (by decide) fl_X10_40 dX10_setSalt_28 rfl rfl ?_
  refine j_iload_n X 2 rfl dX10_setSalt_31 rfl ?_
  refine g_aald X 7 6 kf_65 rfl rfl dX10_setSalt_32 rfl rfl (fun h3 => ?_)
  refine j_iload_n X 3 rfl dX10_setSalt_33 rfl ?_
  refine g_putN X 1 (kTrial (isTrial_of h3)).1 cf_X9 (by decide) fn_X10_269 dX10_setSalt_34 rfl rfl rfl rfl (Nat.le_of_ble_eq_true rfl) rfl (fun S4 => ?_)
  refine j_iload_n X 0 rfl dX10_setSalt_37 rfl ?_
  exact j_iret X dX10_setSalt_38 rfl (fun _ h => h)
def f_X10_armNow (S : jS) (p1 : Int32) (p2 : Int32) : Option (jR Unit) := chk (inb p1 6) (chk (inb p2 20) (chk (inb p1 6) (jbin0 (f_X9_armFor S (346 + 2 * p1.toNatClampNeg) p2 ((S ((82 + 12 * p2.toNatClampNeg) + 1) p1.toNatClampNeg))) (fun v3 _ => some (0, v3, ())))))
abbrev rm_X10_armNow : Room := { frames := 3, cells := 0, slots := 0, locals := 72 }
set_option maxHeartbeats 4000000 in
set_option maxRecDepth 100000 in
theorem c_X10_armNow {l : Launch} {D : va_G} {B t0 : Nat} (hl9 : l.stackTraces = false) (S : jS) (X9 : jMem) (z : Nat → Prop) (p1 : Int32) (p2 : Int32) : jCf l D B t0 yX10_armNow cX10_armNow 3 (some .int) rm_X10_armNow [.ref (B + 0), .int p1, .int p2] (memG 0 358 D B S X9) z (f_X10_armNow S p1 p2) rvI (fun (S9 : Unit) M9 => M9 = memG 0 358 D B S X9) z := by
  refine jC_of hl9 (me_X10_armNow).1 [(0, .ref (B + 0)), (1, .int p1), (2, .int p2)] ⟨by decide +kernel, Nat.le_of_ble_eq_true rfl⟩ rfl (fun κ hl hD hB hT X htab hin => ?_)
  subst hl hD hB hT
  have X : jX κ RX10 cX10_armNow 3 (some .int) := X
  unfold f_X10_armNow
  refine j_aload_n X 0 rfl dX10_armNow_0 rfl ?_
  refine g_getf X 4 kf_0 cf_X10 (by decide) fl_X10_40 dX10_armNow_1 rfl rfl ?_
  refine j_iload_n X 1 rfl dX10_armNow_4 rfl ?_
  refine g_aald X 7 6 kf_65 rfl rfl dX10_armNow_5 rfl rfl (fun h1 => ?_)
  refine j_iload_n X 2 rfl dX10_armNow_6 rfl ?_
  refine j_aload_n X 0 rfl dX10_armNow_7 rfl ?_
  refine g_getf X 6 kf_0 cf_X10 (by decide) fl_X10_53 dX10_armNow_8 rfl rfl ?_
  refine j_iload_n X 2 rfl dX10_armNow_11 rfl ?_
  refine g_aald X 8 20 kf_67 rfl rfl dX10_armNow_12 rfl rfl (fun h2 => ?_)
  refine g_getN X 0 (kPast (isPast_of h2)).1 cf_X5 (by decide) fn_X10_278 dX10_armNow_13 rfl rfl ?_
  refine j_iload_n X 1 rfl dX10_armNow_16 rfl ?_
  refine g_iald X 6 (kPast (isPast_of h2)).2.1 (by decide) dX10_armNow_17 (fun h7 => ?_)
  refine j_call0V X 0 0 (c_X9_armFor X.tr S X9 z (346 + 2 * p1.toNatClampNeg) (isTrial_of h1) p2 ((S ((82 + 12 * p2.toNatClampNeg) + 1) p1.toNatClampNeg))) me_X9_armFor ml_X10_318 iv_X9_armFor cf_X9 dX10_armNow_18 (memG_at (kTrial (isTrial_of h1)).1) (rest := []) rfl rfl (by decide) (by decide) (Nat.le_of_ble_eq_true rfl) (fun v3 u6 M5 hM4 => ?_)
  subst M5
  refine j_st (st1 := [.int v3]) rfl ?_
  exact j_iret X dX10_armNow_21 rfl (fun _ h => h)
def f_X10_stop (S : jS) (p1 : Int32) (p2 : Int32) : Option (jR jS) := jbind (f_X10_checkTrial p1) (fun _ _ => jbind (f_X10_checkVariant p2) (fun _ _ => jbind (f_X10_checkNotHeld S p1) (fun _ _ => loopK (fun (rec1 : Int32 → Int32 → Option (jR jS)) (x2 : Int32) (x3 : Int32) => (if (20 : Int32) ≤ x3 then chk (inb p1 6) (letE (jset S (346 + 2 * p1.toNatClampNeg) 2 p2) fun S5 => some (0, x2, S5)) else jbin0 (f_X10_armNow S p1 x3) (fun v6 _ => joinK (fun (x9 : Int32) => letE (x3 + (1 : Int32)) fun x10 => rec1 x9 x10) (fun k7 => (if v6 = p2 then k7 x2 else letE (x2 + (1 : Int32)) fun x8 => k7 x8))))) (fun _ _ => none) 1000 (0 : Int32) (0 : Int32)) (fun t _ => some (t, (0 : Int32), S))) (fun t _ => some (t, (0 : Int32), S))) (fun t _ => some (t, (0 : Int32), S))
abbrev rm_X10_stop : Room := { frames := 8, cells := 3, slots := 18, locals := 132 }
set_option maxHeartbeats 4000000 in
set_option maxRecDepth 100000 in
theorem c_X10_stop {l : Launch} {D : va_G} {B t0 : Nat} (hl9 : l.stackTraces = false) (S : jS) (X9 : jMem) (z : Nat → Prop) (p1 : Int32) (p2 : Int32) : jCf l D B t0 yX10_stop cX10_stop 5 (some .int) rm_X10_stop [.ref (B + 0), .int p1, .int p2] (memG 0 358 D B S X9) z (f_X10_stop S p1 p2) rvI (fun S9 M9 => M9 = memG 0 358 D B S9 X9) z := by
  refine jC_of hl9 (me_X10_stop).1 [(0, .ref (B + 0)), (1, .int p1), (2, .int p2)] ⟨by decide +kernel, Nat.le_of_ble_eq_true rfl⟩ rfl (fun κ hl hD hB hT X htab hin => ?_)
  subst hl hD hB hT
  have X : jX κ RX10 cX10_stop 5 (some .int) := X
  unfold f_X10_stop
  refine j_iload_n X 1 rfl dX10_stop_0 rfl ?_
  refine j_callS X 2 12 (c_X10_checkTrial X.tr (memG 0 358 (kD κ) (kB κ) S X9) z p1) me_X10_checkTrial ml_X10_256 st_X10_checkTrial htab dX10_stop_1 (rest := []) rfl rfl (by decide) (by decide) (Nat.le_of_ble_eq_true rfl) (fun t S9 M9 r9 hp9 hr9 => by cases hr9; exact ⟨rfl, hp9⟩) (fun v24 u25 M23 hM22 => ?_)
  subst M23
  refine j_st (st1 := []) rfl ?_
  refine j_iload_n X 2 rfl dX10_stop_4 rfl ?_
  refine j_callS X 1 6 (c_X10_checkVariant X.tr (memG 0 358 (kD κ) (kB κ) S X9) z p2) me_X10_checkVariant ml_X10_238 st_X10_checkVariant htab dX10_stop_5 (rest := []) rfl rfl (by decide) (by decide) (Nat.le_of_ble_eq_true rfl) (fun t S9 M9 r9 hp9 hr9 => by cases hr9; exact ⟨rfl, hp9⟩) (fun v20 u21 M19 hM18 => ?_)
  subst M19
  refine j_st (st1 := []) rfl ?_
  refine j_aload_n X 0 rfl dX10_stop_8 rfl ?_
  refine j_iload_n X 1 rfl dX10_stop_9 rfl ?_
  refine j_callV X 0 0 (c_X10_checkNotHeld X.tr S X9 z p1) me_X10_checkNotHeld ml_X10_259 iv_X10_checkNotHeld cf_X10 htab dX10_stop_10 (memG_at kf_0) (rest := []) rfl rfl (by decide) (by decide) (Nat.le_of_ble_eq_true rfl) (fun t S9 M9 r9 hp9 hr9 => by cases hr9; exact ⟨rfl, hp9⟩) (fun v16 u17 M15 hM14 => ?_)
  subst M15
  refine j_st (st1 := []) rfl ?_
  refine j_iconst X (0 : Int32) dX10_stop_13 (by rfl) ?_
  refine j_istore_n X [(3, .int (0 : Int32)), (0, .ref (kB κ + 0)), (1, .int p1), (2, .int p2)] dX10_stop_14 rfl (by decide) rfl ?_
  refine j_iconst X (0 : Int32) dX10_stop_15 (by rfl) ?_
  refine j_istore X [(4, .int (0 : Int32)), (3, .int (0 : Int32)), (0, .ref (kB κ + 0)), (1, .int p1), (2, .int p2)] dX10_stop_16 (by decide) rfl ?_
  refine j_lv [2, 3, 4, 1, 0] rfl ?_
  refine j_loop (fun (k : Int32 → Int32 → Option (jR jS)) => ∀ (x2 : Int32) (x3 : Int32), J κ 5 rm_X10_stop (jQf κ rm_X10_stop rvI (fun S9 M9 => M9 = memG 0 358 (kD κ) (kB κ) S9 X9) z) (k x2 x3) (memG 0 358 (kD κ) (kB κ) S X9) z 0 0 [(0, .ref (kB κ + 0)), (1, .int p1), (2, .int p2), (3, .int x2), (4, .int x3)] 18 []) (fun _ _ => j_none) (fun rec1 hrec1 => ?_) 1000 _ _
  intro x2 x3
  refine j_iload X 4 rfl dX10_stop_18 ?_
  refine j_bipush X (20 : Int32) dX10_stop_20 (by rfl) ?_
  refine j_icmp_ge X 45 dX10_stop_22 (by decide) ?_ ?_
  · refine j_aload_n X 0 rfl dX10_stop_45 rfl ?_
    refine g_getf X 4 kf_0 cf_X10 (by decide) fl_X10_40 dX10_stop_46 rfl rfl ?_
    refine j_iload_n X 1 rfl dX10_stop_49 rfl ?_
    refine g_aald X 7 6 kf_65 rfl rfl dX10_stop_50 rfl rfl (fun h4 => ?_)
    refine j_iload_n X 2 rfl dX10_stop_51 rfl ?_
    refine g_putN X 2 (kTrial (isTrial_of h4)).1 cf_X9 (by decide) fn_X10_275 dX10_stop_52 rfl rfl rfl rfl (Nat.le_of_ble_eq_true rfl) rfl (fun S5 => ?_)
    refine j_iload_n X 3 rfl dX10_stop_55 rfl ?_
    exact j_iret X dX10_stop_56 rfl (fun _ h => h)
  · refine j_aload_n X 0 rfl dX10_stop_25 rfl ?_
    refine j_iload_n X 1 rfl dX10_stop_26 rfl ?_
    refine j_iload X 4 rfl dX10_stop_27 ?_
    refine j_call0V X 0 0 (c_X10_armNow X.tr S X9 z p1 x3) me_X10_armNow ml_X10_272 iv_X10_armNow cf_X10 dX10_stop_29 (memG_at kf_0) (rest := []) rfl rfl (by decide) (by decide) (Nat.le_of_ble_eq_true rfl) (fun v6 u13 M12 hM11 => ?_)
    subst M12
    refine j_st (st1 := [.int v6]) rfl ?_
    refine j_iload_n X 2 rfl dX10_stop_32 rfl ?_
    refine j_join (fun k7 => ∀ (x9 : Int32), J κ 5 rm_X10_stop (jQf κ rm_X10_stop rvI (fun S9 M9 => M9 = memG 0 358 (kD κ) (kB κ) S9 X9) z) (k7 x9) (memG 0 358 (kD κ) (kB κ) S X9) z 0 0 [(0, .ref (kB κ + 0)), (1, .int p1), (2, .int p2), (3, .int x9), (4, .int x3)] 39 []) ?_ (fun k7 hk7 => ?_)
    · intro x9
      refine j_iincL X 4 (fun x10 => [(4, .int x10), (0, .ref (kB κ + 0)), (1, .int p1), (2, .int p2), (3, .int x9)]) dX10_stop_39 rfl (by rfl) (by decide) (fun _ => rfl) (fun x10 => ?_)
      refine j_goto X 18 dX10_stop_42 (by decide) ?_
      refine j_lv [1, 2, 3, 4, 0] rfl ?_
      exact hrec1 x9 x10
    · refine j_icmp_eq X 39 dX10_stop_33 (by decide) ?_ ?_
      · exact hk7 x2
      · refine j_iincL X 3 (fun x8 => [(3, .int x8), (0, .ref (kB κ + 0)), (1, .int p1), (2, .int p2), (4, .int x3)]) dX10_stop_36 rfl (by rfl) (by decide) (fun _ => rfl) (fun x8 => ?_)
        refine j_lv [1, 2, 3, 0, 4] rfl ?_
        exact hk7 x8
def f_X10_arm (S : jS) (p1 : Int32) (p2 : Int32) : Option (jR Unit) := jbind (f_X10_checkTrial p1) (fun _ _ => jbind (f_X10_checkPerson p2) (fun _ _ => jbin0 (f_X10_armNow S p1 p2) (fun v1 _ => some (0, v1, ()))) (fun t _ => some (t, (0 : Int32), ()))) (fun t _ => some (t, (0 : Int32), ()))
abbrev rm_X10_arm : Room := { frames := 8, cells := 2, slots := 12, locals := 132 }
set_option maxHeartbeats 4000000 in
set_option maxRecDepth 100000 in
theorem c_X10_arm {l : Launch} {D : va_G} {B t0 : Nat} (hl9 : l.stackTraces = false) (S : jS) (X9 : jMem) (z : Nat → Prop) (p1 : Int32) (p2 : Int32) : jCf l D B t0 yX10_arm cX10_arm 3 (some .int) rm_X10_arm [.ref (B + 0), .int p1, .int p2] (memG 0 358 D B S X9) z (f_X10_arm S p1 p2) rvI (fun (S9 : Unit) M9 => M9 = memG 0 358 D B S X9) z := by
  refine jC_of hl9 (me_X10_arm).1 [(0, .ref (B + 0)), (1, .int p1), (2, .int p2)] ⟨by decide +kernel, Nat.le_of_ble_eq_true rfl⟩ rfl (fun κ hl hD hB hT X htab hin => ?_)
  subst hl hD hB hT
  have X : jX κ RX10 cX10_arm 3 (some .int) := X
  unfold f_X10_arm
  refine j_iload_n X 1 rfl dX10_arm_0 rfl ?_
  refine j_callS X 1 6 (c_X10_checkTrial X.tr (memG 0 358 (kD κ) (kB κ) S X9) z p1) me_X10_checkTrial ml_X10_256 st_X10_checkTrial htab dX10_arm_1 (rest := []) rfl rfl (by decide) (by decide) (Nat.le_of_ble_eq_true rfl) (fun t S9 M9 r9 hp9 hr9 => by cases hr9; exact ⟨rfl, hp9⟩) (fun v11 u12 M10 hM9 => ?_)
  subst M10
  refine j_st (st1 := []) rfl ?_
  refine j_iload_n X 2 rfl dX10_arm_4 rfl ?_
  refine j_callS X 0 0 (c_X10_checkPerson X.tr (memG 0 358 (kD κ) (kB κ) S X9) z p2) me_X10_checkPerson ml_X10_71 st_X10_checkPerson htab dX10_arm_5 (rest := []) rfl rfl (by decide) (by decide) (Nat.le_of_ble_eq_true rfl) (fun t S9 M9 r9 hp9 hr9 => by cases hr9; exact ⟨rfl, hp9⟩) (fun v7 u8 M6 hM5 => ?_)
  subst M6
  refine j_st (st1 := []) rfl ?_
  refine j_aload_n X 0 rfl dX10_arm_8 rfl ?_
  refine j_iload_n X 1 rfl dX10_arm_9 rfl ?_
  refine j_iload_n X 2 rfl dX10_arm_10 rfl ?_
  refine j_call0V X 0 0 (c_X10_armNow X.tr S X9 z p1 p2) me_X10_armNow ml_X10_272 iv_X10_armNow cf_X10 dX10_arm_11 (memG_at kf_0) (rest := []) rfl rfl (by decide) (by decide) (Nat.le_of_ble_eq_true rfl) (fun v1 u4 M3 hM2 => ?_)
  subst M3
  refine j_st (st1 := [.int v1]) rfl ?_
  exact j_iret X dX10_arm_14 rfl (fun _ h => h)
def f_X10_kept (S : jS) (p1 : Int32) (p2 : Int32) : Option (jR Unit) := jbind (f_X10_checkTrial p1) (fun _ _ => jbind (f_X10_checkPerson p2) (fun _ _ => chk (inb p2 20) (chk (inb p1 6) (some (0, (S ((82 + 12 * p2.toNatClampNeg) + 1) p1.toNatClampNeg), ())))) (fun t _ => some (t, (0 : Int32), ()))) (fun t _ => some (t, (0 : Int32), ()))
abbrev rm_X10_kept : Room := { frames := 8, cells := 2, slots := 12, locals := 132 }
set_option maxHeartbeats 4000000 in
set_option maxRecDepth 100000 in
theorem c_X10_kept {l : Launch} {D : va_G} {B t0 : Nat} (hl9 : l.stackTraces = false) (S : jS) (X9 : jMem) (z : Nat → Prop) (p1 : Int32) (p2 : Int32) : jCf l D B t0 yX10_kept cX10_kept 3 (some .int) rm_X10_kept [.ref (B + 0), .int p1, .int p2] (memG 0 358 D B S X9) z (f_X10_kept S p1 p2) rvI (fun (S9 : Unit) M9 => M9 = memG 0 358 D B S X9) z := by
  refine jC_of hl9 (me_X10_kept).1 [(0, .ref (B + 0)), (1, .int p1), (2, .int p2)] ⟨by decide +kernel, Nat.le_of_ble_eq_true rfl⟩ rfl (fun κ hl hD hB hT X htab hin => ?_)
  subst hl hD hB hT
  have X : jX κ RX10 cX10_kept 3 (some .int) := X
  unfold f_X10_kept
  refine j_iload_n X 1 rfl dX10_kept_0 rfl ?_
  refine j_callS X 1 6 (c_X10_checkTrial X.tr (memG 0 358 (kD κ) (kB κ) S X9) z p1) me_X10_checkTrial ml_X10_256 st_X10_checkTrial htab dX10_kept_1 (rest := []) rfl rfl (by decide) (by decide) (Nat.le_of_ble_eq_true rfl) (fun t S9 M9 r9 hp9 hr9 => by cases hr9; exact ⟨rfl, hp9⟩) (fun v9 u10 M8 hM7 => ?_)
  subst M8
  refine j_st (st1 := []) rfl ?_
  refine j_iload_n X 2 rfl dX10_kept_4 rfl ?_
  refine j_callS X 0 0 (c_X10_checkPerson X.tr (memG 0 358 (kD κ) (kB κ) S X9) z p2) me_X10_checkPerson ml_X10_71 st_X10_checkPerson htab dX10_kept_5 (rest := []) rfl rfl (by decide) (by decide) (Nat.le_of_ble_eq_true rfl) (fun t S9 M9 r9 hp9 hr9 => by cases hr9; exact ⟨rfl, hp9⟩) (fun v5 u6 M4 hM3 => ?_)
  subst M4
  refine j_st (st1 := []) rfl ?_
  refine j_aload_n X 0 rfl dX10_kept_8 rfl ?_
  refine g_getf X 6 kf_0 cf_X10 (by decide) fl_X10_53 dX10_kept_9 rfl rfl ?_
  refine j_iload_n X 2 rfl dX10_kept_12 rfl ?_
  refine g_aald X 8 20 kf_67 rfl rfl dX10_kept_13 rfl rfl (fun h1 => ?_)
  refine g_getN X 0 (kPast (isPast_of h1)).1 cf_X5 (by decide) fn_X10_278 dX10_kept_14 rfl rfl ?_
  refine j_iload_n X 1 rfl dX10_kept_17 rfl ?_
  refine g_iald X 6 (kPast (isPast_of h1)).2.1 (by decide) dX10_kept_18 (fun h2 => ?_)
  exact j_iret X dX10_kept_19 rfl (fun _ h => h)
def f_X10_isHeld (S : jS) (p1 : Int32) (p2 : Int32) : Option (jR Unit) := jbind (f_X10_checkPerson p1) (fun _ _ => jbind (f_X10_checkFlag p2) (fun _ _ => chk (inb p1 20) (chk (inb p2 8) (joinK (fun (x3 : Int32) => chk (isb x3) (some (0, x3, ()))) (fun k2 => (if (S ((82 + 12 * p1.toNatClampNeg) + 10) p2.toNatClampNeg) = (0 : Int32) then k2 (0 : Int32) else k2 (1 : Int32)))))) (fun t _ => some (t, (0 : Int32), ()))) (fun t _ => some (t, (0 : Int32), ()))
abbrev rm_X10_isHeld : Room := { frames := 8, cells := 2, slots := 12, locals := 132 }
set_option maxHeartbeats 4000000 in
set_option maxRecDepth 100000 in
theorem c_X10_isHeld {l : Launch} {D : va_G} {B t0 : Nat} (hl9 : l.stackTraces = false) (S : jS) (X9 : jMem) (z : Nat → Prop) (p1 : Int32) (p2 : Int32) : jCf l D B t0 yX10_isHeld cX10_isHeld 3 (some .boolean) rm_X10_isHeld [.ref (B + 0), .int p1, .int p2] (memG 0 358 D B S X9) z (f_X10_isHeld S p1 p2) rvI (fun (S9 : Unit) M9 => M9 = memG 0 358 D B S X9) z := by
  refine jC_of hl9 (me_X10_isHeld).1 [(0, .ref (B + 0)), (1, .int p1), (2, .int p2)] ⟨by decide +kernel, Nat.le_of_ble_eq_true rfl⟩ rfl (fun κ hl hD hB hT X htab hin => ?_)
  subst hl hD hB hT
  have X : jX κ RX10 cX10_isHeld 3 (some .boolean) := X
  unfold f_X10_isHeld
  refine j_iload_n X 1 rfl dX10_isHeld_0 rfl ?_
  refine j_callS X 1 6 (c_X10_checkPerson X.tr (memG 0 358 (kD κ) (kB κ) S X9) z p1) me_X10_checkPerson ml_X10_71 st_X10_checkPerson htab dX10_isHeld_1 (rest := []) rfl rfl (by decide) (by decide) (Nat.le_of_ble_eq_true rfl) (fun t S9 M9 r9 hp9 hr9 => by cases hr9; exact ⟨rfl, hp9⟩) (fun v11 u12 M10 hM9 => ?_)
  subst M10
  refine j_st (st1 := []) rfl ?_
  refine j_iload_n X 2 rfl dX10_isHeld_4 rfl ?_
  refine j_callS X 0 0 (c_X10_checkFlag X.tr (memG 0 358 (kD κ) (kB κ) S X9) z p2) me_X10_checkFlag ml_X10_175 st_X10_checkFlag htab dX10_isHeld_5 (rest := []) rfl rfl (by decide) (by decide) (Nat.le_of_ble_eq_true rfl) (fun t S9 M9 r9 hp9 hr9 => by cases hr9; exact ⟨rfl, hp9⟩) (fun v7 u8 M6 hM5 => ?_)
  subst M6
  refine j_st (st1 := []) rfl ?_
  refine j_aload_n X 0 rfl dX10_isHeld_8 rfl ?_
  refine g_getf X 6 kf_0 cf_X10 (by decide) fl_X10_53 dX10_isHeld_9 rfl rfl ?_
  refine j_iload_n X 1 rfl dX10_isHeld_12 rfl ?_
  refine g_aald X 8 20 kf_67 rfl rfl dX10_isHeld_13 rfl rfl (fun h1 => ?_)
  refine g_getN X 3 (kPast (isPast_of h1)).1 cf_X5 (by decide) fn_X10_281 dX10_isHeld_14 rfl rfl ?_
  refine j_iload_n X 2 rfl dX10_isHeld_17 rfl ?_
  refine g_iald X 8 (kPast (isPast_of h1)).2.2.2.2.1 (by decide) dX10_isHeld_18 (fun h4 => ?_)
  refine j_join (fun k2 => ∀ (x3 : Int32), J κ 3 rm_X10_isHeld (jQf κ rm_X10_isHeld rvI (fun (S9 : Unit) M9 => M9 = memG 0 358 (kD κ) (kB κ) S X9) z) (k2 x3) (memG 0 358 (kD κ) (kB κ) S X9) z 0 0 [] 27 [.int x3]) ?_ (fun k2 hk2 => ?_)
  · intro x3
    exact j_zret X dX10_isHeld_27 rfl (fun _ h => h)
  · refine j_if_eq X 26 dX10_isHeld_19 (by decide) ?_ ?_
    · refine j_iconst X (0 : Int32) dX10_isHeld_26 (by rfl) ?_
      refine j_lv [] rfl ?_
      exact hk2 (0 : Int32)
    · refine j_iconst X (1 : Int32) dX10_isHeld_22 (by rfl) ?_
      refine j_goto X 27 dX10_isHeld_23 (by decide) ?_
      refine j_lv [] rfl ?_
      exact hk2 (1 : Int32)
def f_X10_shownLast (S : jS) (p1 : Int32) (p2 : Int32) : Option (jR Unit) := jbind (f_X10_checkPerson p1) (fun _ _ => jbind (f_X10_checkFlag p2) (fun _ _ => chk (inb p1 20) (chk (inb p2 8) (some (0, (S ((82 + 12 * p1.toNatClampNeg) + 9) p2.toNatClampNeg), ())))) (fun t _ => some (t, (0 : Int32), ()))) (fun t _ => some (t, (0 : Int32), ()))
abbrev rm_X10_shownLast : Room := { frames := 8, cells := 2, slots := 12, locals := 132 }
set_option maxHeartbeats 4000000 in
set_option maxRecDepth 100000 in
theorem c_X10_shownLast {l : Launch} {D : va_G} {B t0 : Nat} (hl9 : l.stackTraces = false) (S : jS) (X9 : jMem) (z : Nat → Prop) (p1 : Int32) (p2 : Int32) : jCf l D B t0 yX10_shownLast cX10_shownLast 3 (some .int) rm_X10_shownLast [.ref (B + 0), .int p1, .int p2] (memG 0 358 D B S X9) z (f_X10_shownLast S p1 p2) rvI (fun (S9 : Unit) M9 => M9 = memG 0 358 D B S X9) z := by
  refine jC_of hl9 (me_X10_shownLast).1 [(0, .ref (B + 0)), (1, .int p1), (2, .int p2)] ⟨by decide +kernel, Nat.le_of_ble_eq_true rfl⟩ rfl (fun κ hl hD hB hT X htab hin => ?_)
  subst hl hD hB hT
  have X : jX κ RX10 cX10_shownLast 3 (some .int) := X
  unfold f_X10_shownLast
  refine j_iload_n X 1 rfl dX10_shownLast_0 rfl ?_
  refine j_callS X 1 6 (c_X10_checkPerson X.tr (memG 0 358 (kD κ) (kB κ) S X9) z p1) me_X10_checkPerson ml_X10_71 st_X10_checkPerson htab dX10_shownLast_1 (rest := []) rfl rfl (by decide) (by decide) (Nat.le_of_ble_eq_true rfl) (fun t S9 M9 r9 hp9 hr9 => by cases hr9; exact ⟨rfl, hp9⟩) (fun v9 u10 M8 hM7 => ?_)
  subst M8
  refine j_st (st1 := []) rfl ?_
  refine j_iload_n X 2 rfl dX10_shownLast_4 rfl ?_
  refine j_callS X 0 0 (c_X10_checkFlag X.tr (memG 0 358 (kD κ) (kB κ) S X9) z p2) me_X10_checkFlag ml_X10_175 st_X10_checkFlag htab dX10_shownLast_5 (rest := []) rfl rfl (by decide) (by decide) (Nat.le_of_ble_eq_true rfl) (fun t S9 M9 r9 hp9 hr9 => by cases hr9; exact ⟨rfl, hp9⟩) (fun v5 u6 M4 hM3 => ?_)
  subst M4
  refine j_st (st1 := []) rfl ?_
  refine j_aload_n X 0 rfl dX10_shownLast_8 rfl ?_
  refine g_getf X 6 kf_0 cf_X10 (by decide) fl_X10_53 dX10_shownLast_9 rfl rfl ?_
  refine j_iload_n X 1 rfl dX10_shownLast_12 rfl ?_
  refine g_aald X 8 20 kf_67 rfl rfl dX10_shownLast_13 rfl rfl (fun h1 => ?_)
  refine g_getN X 2 (kPast (isPast_of h1)).1 cf_X5 (by decide) fn_X10_300 dX10_shownLast_14 rfl rfl ?_
  refine j_iload_n X 2 rfl dX10_shownLast_17 rfl ?_
  refine g_iald X 8 (kPast (isPast_of h1)).2.2.2.1 (by decide) dX10_shownLast_18 (fun h2 => ?_)
  exact j_iret X dX10_shownLast_19 rfl (fun _ h => h)
def f_X10_needsZero (S : jS) (p1 : Int32) (p2 : Int32) : Option (jR jS) := chk (inb p1 20) (jbin0 (f_X10_findViews S 80 p1 30 (82 + 12 * p1.toNatClampNeg)) (fun _ S2 => loopK (fun (rec3 : Int32 → Option (jR jS)) (x4 : Int32) => (if (8 : Int32) ≤ x4 then chk (isb (0 : Int32)) (some (0, (0 : Int32), S2)) else chk (inb p2 8) (jbin0 (f_X10_hasBit ((S2 (62 + 1) p2.toNatClampNeg)) x4) (fun v5 _ => joinK (fun (_ : Unit) => letE (x4 + (1 : Int32)) fun x8 => rec3 x8) (fun k6 => (if v5 = (0 : Int32) then k6 () else chk (inb x4 8) ((if (S2 80 x4.toNatClampNeg) = (0 : Int32) then chk (isb (1 : Int32)) (some (0, (1 : Int32), S2)) else k6 ())))))))) (fun _ => none) 1000 (0 : Int32)))
abbrev rm_X10_needsZero : Room := { frames := 5, cells := 0, slots := 0, locals := 125 }
set_option maxHeartbeats 4000000 in
set_option maxRecDepth 100000 in
theorem c_X10_needsZero {l : Launch} {D : va_G} {B t0 : Nat} (hl9 : l.stackTraces = false) (S : jS) (X9 : jMem) (z : Nat → Prop) (p1 : Int32) (p2 : Int32) : jCf l D B t0 yX10_needsZero cX10_needsZero 4 (some .boolean) rm_X10_needsZero [.ref (B + 0), .int p1, .int p2] (memG 0 358 D B S X9) z (f_X10_needsZero S p1 p2) rvI (fun S9 M9 => M9 = memG 0 358 D B S9 X9) z := by
  refine jC_of hl9 (me_X10_needsZero).1 [(0, .ref (B + 0)), (1, .int p1), (2, .int p2)] ⟨by decide +kernel, Nat.le_of_ble_eq_true rfl⟩ rfl (fun κ hl hD hB hT X htab hin => ?_)
  subst hl hD hB hT
  have X : jX κ RX10 cX10_needsZero 4 (some .boolean) := X
  unfold f_X10_needsZero
  refine j_aload_n X 0 rfl dX10_needsZero_0 rfl ?_
  refine j_aload_n X 0 rfl dX10_needsZero_1 rfl ?_
  refine g_getf X 8 kf_0 cf_X10 (by decide) fl_X10_62 dX10_needsZero_2 rfl rfl ?_
  refine j_iload_n X 1 rfl dX10_needsZero_5 rfl ?_
  refine j_aload_n X 0 rfl dX10_needsZero_6 rfl ?_
  refine g_getf X 1 kf_0 cf_X10 (by decide) fl_X10_19 dX10_needsZero_7 rfl rfl ?_
  refine g_getN X 3 kf_24 cf_X0 (by decide) fn_X10_153 dX10_needsZero_10 rfl rfl ?_
  refine j_aload_n X 0 rfl dX10_needsZero_13 rfl ?_
  refine g_getf X 6 kf_0 cf_X10 (by decide) fl_X10_53 dX10_needsZero_14 rfl rfl ?_
  refine j_iload_n X 1 rfl dX10_needsZero_17 rfl ?_
  refine g_aald X 8 20 kf_67 rfl rfl dX10_needsZero_18 rfl rfl (fun h1 => ?_)
  refine j_call0V X 0 0 (c_X10_findViews X.tr S X9 z 80 kf_80 p1 30 kf_30 (82 + 12 * p1.toNatClampNeg) (isPast_of h1)) me_X10_findViews ml_X10_167 iv_X10_findViews cf_X10 dX10_needsZero_19 (memG_at kf_0) (rest := []) rfl rfl (by decide) (by decide) (Nat.le_of_ble_eq_true rfl) (fun v15 S2 M14 hM13 => ?_)
  subst M14
  refine j_st (st1 := []) rfl ?_
  refine j_iconst X (0 : Int32) dX10_needsZero_22 (by rfl) ?_
  refine j_istore_n X [(3, .int (0 : Int32)), (0, .ref (kB κ + 0)), (1, .int p1), (2, .int p2)] dX10_needsZero_23 rfl (by decide) rfl ?_
  refine j_lv [1, 3, 0] rfl ?_
  refine j_loop (fun (k : Int32 → Option (jR jS)) => ∀ (x4 : Int32), J κ 4 rm_X10_needsZero (jQf κ rm_X10_needsZero rvI (fun S9 M9 => M9 = memG 0 358 (kD κ) (kB κ) S9 X9) z) (k x4) (memG 0 358 (kD κ) (kB κ) S2 X9) z 0 0 [(0, .ref (kB κ + 0)), (2, .int p2), (3, .int x4)] 24 []) (fun _ => j_none) (fun rec3 hrec3 => ?_) 1000 _
  intro x4
  refine j_iload_n X 2 rfl dX10_needsZero_24 rfl ?_
  refine j_bipush X (8 : Int32) dX10_needsZero_25 (by rfl) ?_
  refine j_icmp_ge X 63 dX10_needsZero_27 (by decide) ?_ ?_
  · refine j_iconst X (0 : Int32) dX10_needsZero_63 (by rfl) ?_
    exact j_zret X dX10_needsZero_64 rfl (fun _ h => h)
  · refine j_aload_n X 0 rfl dX10_needsZero_30 rfl ?_
    refine g_getf X 3 kf_0 cf_X10 (by decide) fl_X10_34 dX10_needsZero_31 rfl rfl ?_
    refine g_getN X 0 (kGraph isGraph_8).1 cf_X4 (by decide) fn_X10_198 dX10_needsZero_34 rfl rfl ?_
    refine j_iload_n X 1 rfl dX10_needsZero_37 rfl ?_
    refine g_iald X 8 (kGraph isGraph_8).2.1 (by decide) dX10_needsZero_38 (fun h12 => ?_)
    refine j_iload_n X 2 rfl dX10_needsZero_39 rfl ?_
    refine j_call0S X 0 0 (c_X10_hasBit X.tr (memG 0 358 (kD κ) (kB κ) S2 X9) z ((S2 (62 + 1) p2.toNatClampNeg)) x4) me_X10_hasBit ml_X10_93 st_X10_hasBit dX10_needsZero_40 (rest := []) rfl rfl (by decide) (by decide) (Nat.le_of_ble_eq_true rfl) (fun v5 u11 M10 hM9 => ?_)
    subst M10
    refine j_st (st1 := [.int v5]) rfl ?_
    refine j_join (fun k6 => ∀ (_ : Unit), J κ 4 rm_X10_needsZero (jQf κ rm_X10_needsZero rvI (fun S9 M9 => M9 = memG 0 358 (kD κ) (kB κ) S9 X9) z) (k6 ()) (memG 0 358 (kD κ) (kB κ) S2 X9) z 0 0 [(0, .ref (kB κ + 0)), (2, .int p2), (3, .int x4)] 57 []) ?_ (fun k6 hk6 => ?_)
    · intro _
      refine j_iincL X 2 (fun x8 => [(3, .int x8), (0, .ref (kB κ + 0)), (2, .int p2)]) dX10_needsZero_57 rfl (by rfl) (by decide) (fun _ => rfl) (fun x8 => ?_)
      refine j_goto X 24 dX10_needsZero_60 (by decide) ?_
      refine j_lv [1, 2, 0] rfl ?_
      exact hrec3 x8
    · refine j_if_eq X 57 dX10_needsZero_43 (by decide) ?_ ?_
      · exact hk6 ()
      · refine j_aload_n X 0 rfl dX10_needsZero_46 rfl ?_
        refine g_getf X 8 kf_0 cf_X10 (by decide) fl_X10_62 dX10_needsZero_47 rfl rfl ?_
        refine j_iload_n X 2 rfl dX10_needsZero_50 rfl ?_
        refine g_iald X 8 kf_80 (by decide) dX10_needsZero_51 (fun h7 => ?_)
        refine j_if_ne X 57 dX10_needsZero_52 (by decide) ?_ ?_
        · refine j_iconst X (1 : Int32) dX10_needsZero_55 (by rfl) ?_
          exact j_zret X dX10_needsZero_56 rfl (fun _ h => h)
        · exact hk6 ()
def f_X10_trialThatShows (S : jS) (p1 : Int32) (p2 : Int32) : Option (jR jS) := chk (inb p1 20) (chk (inb p2 8) (joinK (fun (S19 : jS) => some (0, (-1 : Int32), S19)) (fun k2 => (if (S ((82 + 12 * p1.toNatClampNeg) + 10) p2.toNatClampNeg) = (0 : Int32) then jbin0 (f_X10_needsZero S p1 p2) (fun v3 S4 => (if v3 = (0 : Int32) then chk (inb p2 8) (jbin0 (f_X3_decidingRule S4 (322 + 3 * p2.toNatClampNeg) p1 30) (fun v6 _ => joinK (fun (x13 : Int32) => some (0, x13, S4)) (fun k7 => (if v6 = (-1 : Int32) then k7 (-1 : Int32) else chk (inb p2 8) (jbin0 (f_X3_trialOf S4 (322 + 3 * p2.toNatClampNeg) v6) (fun v9 _ => k7 v9)))))) else k2 S4)) else k2 S))))
abbrev rm_X10_trialThatShows : Room := { frames := 6, cells := 0, slots := 0, locals := 148 }
set_option maxHeartbeats 4000000 in
set_option maxRecDepth 100000 in
theorem c_X10_trialThatShows {l : Launch} {D : va_G} {B t0 : Nat} (hl9 : l.stackTraces = false) (S : jS) (X9 : jMem) (z : Nat → Prop) (p1 : Int32) (p2 : Int32) : jCf l D B t0 yX10_trialThatShows cX10_trialThatShows 4 (some .int) rm_X10_trialThatShows [.ref (B + 0), .int p1, .int p2] (memG 0 358 D B S X9) z (f_X10_trialThatShows S p1 p2) rvI (fun S9 M9 => M9 = memG 0 358 D B S9 X9) z := by
  refine jC_of hl9 (me_X10_trialThatShows).1 [(0, .ref (B + 0)), (1, .int p1), (2, .int p2)] ⟨by decide +kernel, Nat.le_of_ble_eq_true rfl⟩ rfl (fun κ hl hD hB hT X htab hin => ?_)
  subst hl hD hB hT
  have X : jX κ RX10 cX10_trialThatShows 4 (some .int) := X
  unfold f_X10_trialThatShows
  refine j_aload_n X 0 rfl dX10_trialThatShows_0 rfl ?_
  refine g_getf X 6 kf_0 cf_X10 (by decide) fl_X10_53 dX10_trialThatShows_1 rfl rfl ?_
  refine j_iload_n X 1 rfl dX10_trialThatShows_4 rfl ?_
  refine g_aald X 8 20 kf_67 rfl rfl dX10_trialThatShows_5 rfl rfl (fun h1 => ?_)
  refine g_getN X 3 (kPast (isPast_of h1)).1 cf_X5 (by decide) fn_X10_281 dX10_trialThatShows_6 rfl rfl ?_
  refine j_iload_n X 2 rfl dX10_trialThatShows_9 rfl ?_
  refine g_iald X 8 (kPast (isPast_of h1)).2.2.2.2.1 (by decide) dX10_trialThatShows_10 (fun h20 => ?_)
  refine j_join (fun k2 => ∀ (S19 : jS), J κ 4 rm_X10_trialThatShows (jQf κ rm_X10_trialThatShows rvI (fun S9 M9 => M9 = memG 0 358 (kD κ) (kB κ) S9 X9) z) (k2 S19) (memG 0 358 (kD κ) (kB κ) S19 X9) z 0 0 [] 23 []) ?_ (fun k2 hk2 => ?_)
  · intro S19
    refine j_iconst X (-1 : Int32) dX10_trialThatShows_23 (by rfl) ?_
    exact j_iret X dX10_trialThatShows_24 rfl (fun _ h => h)
  · refine j_if_ne X 23 dX10_trialThatShows_11 (by decide) ?_ ?_
    · refine j_aload_n X 0 rfl dX10_trialThatShows_14 rfl ?_
      refine j_iload_n X 1 rfl dX10_trialThatShows_15 rfl ?_
      refine j_iload_n X 2 rfl dX10_trialThatShows_16 rfl ?_
      refine j_call0V X 0 0 (c_X10_needsZero X.tr S X9 z p1 p2) me_X10_needsZero ml_X10_334 iv_X10_needsZero cf_X10 dX10_trialThatShows_17 (memG_at kf_0) (rest := []) rfl rfl (by decide) (by decide) (Nat.le_of_ble_eq_true rfl) (fun v3 S4 M18 hM17 => ?_)
      subst M18
      refine j_st (st1 := [.int v3]) rfl ?_
      refine j_if_eq X 25 dX10_trialThatShows_20 (by decide) ?_ ?_
      · refine j_aload_n X 0 rfl dX10_trialThatShows_25 rfl ?_
        refine g_getf X 2 kf_0 cf_X10 (by decide) fl_X10_25 dX10_trialThatShows_26 rfl rfl ?_
        refine j_iload_n X 2 rfl dX10_trialThatShows_29 rfl ?_
        refine g_aald X 6 8 kf_61 rfl rfl dX10_trialThatShows_30 rfl rfl (fun h5 => ?_)
        refine j_iload_n X 1 rfl dX10_trialThatShows_31 rfl ?_
        refine j_aload_n X 0 rfl dX10_trialThatShows_32 rfl ?_
        refine g_getf X 1 kf_0 cf_X10 (by decide) fl_X10_19 dX10_trialThatShows_33 rfl rfl ?_
        refine g_getN X 3 kf_24 cf_X0 (by decide) fn_X10_153 dX10_trialThatShows_36 rfl rfl ?_
        refine j_call0V X 0 0 (c_X3_decidingRule X.tr S4 X9 z (322 + 3 * p2.toNatClampNeg) (isFlag_of h5) p1 30 kf_30) me_X3_decidingRule ml_X10_234 iv_X3_decidingRule cf_X3 dX10_trialThatShows_39 (memG_at (kFlag (isFlag_of h5)).1) (rest := []) rfl rfl (by decide) (by decide) (Nat.le_of_ble_eq_true rfl) (fun v6 u16 M15 hM14 => ?_)
        subst M15
        refine j_st (st1 := [.int v6]) rfl ?_
        refine j_istore_n X [(3, .int v6), (0, .ref (kB κ + 0)), (1, .int p1), (2, .int p2)] dX10_trialThatShows_42 rfl (by decide) rfl ?_
        refine j_iload_n X 0 rfl dX10_trialThatShows_43 rfl ?_
        refine j_iconst X (-1 : Int32) dX10_trialThatShows_44 (by rfl) ?_
        refine j_join (fun k7 => ∀ (x13 : Int32), J κ 4 rm_X10_trialThatShows (jQf κ rm_X10_trialThatShows rvI (fun S9 M9 => M9 = memG 0 358 (kD κ) (kB κ) S9 X9) z) (k7 x13) (memG 0 358 (kD κ) (kB κ) S4 X9) z 0 0 [] 62 [.int x13]) ?_ (fun k7 hk7 => ?_)
        · intro x13
          exact j_iret X dX10_trialThatShows_62 rfl (fun _ h => h)
        · refine j_icmp_ne X 52 dX10_trialThatShows_45 (by decide) ?_ ?_
          · refine j_iconst X (-1 : Int32) dX10_trialThatShows_48 (by rfl) ?_
            refine j_goto X 62 dX10_trialThatShows_49 (by decide) ?_
            refine j_lv [] rfl ?_
            exact hk7 (-1 : Int32)
          · refine j_aload_n X 1 rfl dX10_trialThatShows_52 rfl ?_
            refine g_getf X 2 kf_0 cf_X10 (by decide) fl_X10_25 dX10_trialThatShows_53 rfl rfl ?_
            refine j_iload_n X 3 rfl dX10_trialThatShows_56 rfl ?_
            refine g_aald X 6 8 kf_61 rfl rfl dX10_trialThatShows_57 rfl rfl (fun h8 => ?_)
            refine j_iload_n X 0 rfl dX10_trialThatShows_58 rfl ?_
            refine j_call0V X 0 0 (c_X3_trialOf X.tr S4 X9 z (322 + 3 * p2.toNatClampNeg) (isFlag_of h8) v6) me_X3_trialOf ml_X10_331 iv_X3_trialOf cf_X3 dX10_trialThatShows_59 (memG_at (kFlag (isFlag_of h8)).1) (rest := []) rfl rfl (by decide) (by decide) (Nat.le_of_ble_eq_true rfl) (fun v9 u12 M11 hM10 => ?_)
            subst M11
            refine j_st (st1 := [.int v9]) rfl ?_
            refine j_lv [] rfl ?_
            exact hk7 v9
      · refine j_lv [] rfl ?_
        exact hk2 S4
    · refine j_lv [] rfl ?_
      exact hk2 S
def f_X10_keeps (S : jS) (p1 : Int32) (p2 : Int32) : Option (jR Unit) := joinK (fun (x6 : Int32) => chk (isb x6) (some (0, x6, ()))) (fun k1 => joinK (fun (_ : Unit) => k1 (0 : Int32)) (fun k2 => (if p1 = (-1 : Int32) then k2 () else chk (inb p1 6) ((if (S (346 + 2 * p1.toNatClampNeg) 2) = (-1 : Int32) then chk (inb p2 20) (chk (inb p1 6) ((if (S ((82 + 12 * p2.toNatClampNeg) + 1) p1.toNatClampNeg) = (-1 : Int32) then k1 (1 : Int32) else k2 ()))) else k2 ())))))
abbrev rm_X10_keeps : Room := { frames := 0, cells := 0, slots := 0, locals := 0 }
set_option maxHeartbeats 4000000 in
set_option maxRecDepth 100000 in
theorem c_X10_keeps {l : Launch} {D : va_G} {B t0 : Nat} (hl9 : l.stackTraces = false) (S : jS) (X9 : jMem) (z : Nat → Prop) (p1 : Int32) (p2 : Int32) : jCf l D B t0 yX10_keeps cX10_keeps 3 (some .boolean) rm_X10_keeps [.ref (B + 0), .int p1, .int p2] (memG 0 358 D B S X9) z (f_X10_keeps S p1 p2) rvI (fun (S9 : Unit) M9 => M9 = memG 0 358 D B S X9) z := by
  refine jC_of hl9 (me_X10_keeps).1 [(0, .ref (B + 0)), (1, .int p1), (2, .int p2)] ⟨by decide +kernel, Nat.le_of_ble_eq_true rfl⟩ rfl (fun κ hl hD hB hT X htab hin => ?_)
  subst hl hD hB hT
  have X : jX κ RX10 cX10_keeps 3 (some .boolean) := X
  unfold f_X10_keeps
  refine j_iload_n X 1 rfl dX10_keeps_0 rfl ?_
  refine j_iconst X (-1 : Int32) dX10_keeps_1 (by rfl) ?_
  refine j_join (fun k1 => ∀ (x6 : Int32), J κ 3 rm_X10_keeps (jQf κ rm_X10_keeps rvI (fun (S9 : Unit) M9 => M9 = memG 0 358 (kD κ) (kB κ) S X9) z) (k1 x6) (memG 0 358 (kD κ) (kB κ) S X9) z 0 0 [] 38 [.int x6]) ?_ (fun k1 hk1 => ?_)
  · intro x6
    exact j_zret X dX10_keeps_38 rfl (fun _ h => h)
  · refine j_join (fun k2 => ∀ (_ : Unit), J κ 3 rm_X10_keeps (jQf κ rm_X10_keeps rvI (fun (S9 : Unit) M9 => M9 = memG 0 358 (kD κ) (kB κ) S X9) z) (k2 ()) (memG 0 358 (kD κ) (kB κ) S X9) z 0 0 [] 37 []) ?_ (fun k2 hk2 => ?_)
    · intro _
      refine j_iconst X (0 : Int32) dX10_keeps_37 (by rfl) ?_
      exact hk1 (0 : Int32)
    · refine j_icmp_eq X 37 dX10_keeps_2 (by decide) ?_ ?_
      · refine j_lv [] rfl ?_
        exact hk2 ()
      · refine j_aload_n X 0 rfl dX10_keeps_5 rfl ?_
        refine g_getf X 4 kf_0 cf_X10 (by decide) fl_X10_40 dX10_keeps_6 rfl rfl ?_
        refine j_iload_n X 1 rfl dX10_keeps_9 rfl ?_
        refine g_aald X 7 6 kf_65 rfl rfl dX10_keeps_10 rfl rfl (fun h3 => ?_)
        refine g_getN X 2 (kTrial (isTrial_of h3)).1 cf_X9 (by decide) fn_X10_275 dX10_keeps_11 rfl rfl ?_
        refine j_iconst X (-1 : Int32) dX10_keeps_14 (by rfl) ?_
        refine j_icmp_ne X 37 dX10_keeps_15 (by decide) ?_ ?_
        · refine j_aload_n X 0 rfl dX10_keeps_18 rfl ?_
          refine g_getf X 6 kf_0 cf_X10 (by decide) fl_X10_53 dX10_keeps_19 rfl rfl ?_
          refine j_iload_n X 2 rfl dX10_keeps_22 rfl ?_
          refine g_aald X 8 20 kf_67 rfl rfl dX10_keeps_23 rfl rfl (fun h4 => ?_)
          refine g_getN X 0 (kPast (isPast_of h4)).1 cf_X5 (by decide) fn_X10_278 dX10_keeps_24 rfl rfl ?_
          refine j_iload_n X 1 rfl dX10_keeps_27 rfl ?_
          refine g_iald X 6 (kPast (isPast_of h4)).2.1 (by decide) dX10_keeps_28 (fun h5 => ?_)
          refine j_iconst X (-1 : Int32) dX10_keeps_29 (by rfl) ?_
          refine j_icmp_ne X 37 dX10_keeps_30 (by decide) ?_ ?_
          · refine j_iconst X (1 : Int32) dX10_keeps_33 (by rfl) ?_
            refine j_goto X 38 dX10_keeps_34 (by decide) ?_
            refine j_lv [] rfl ?_
            exact hk1 (1 : Int32)
          · refine j_lv [] rfl ?_
            exact hk2 ()
        · refine j_lv [] rfl ?_
          exact hk2 ()
end GEN
