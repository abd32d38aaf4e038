section G3
abbrev inPast (lo hi b : Nat) : Prop := kIn lo hi b 17 ∧ kIn lo hi (b + 1) 1006 ∧ kIn lo hi (b + 2) 18 ∧ kIn lo hi (b + 9) 1008 ∧ kIn lo hi (b + 10) 1008 ∧ kIn lo hi (b + 11) 1008 ∧ (∀ i, i < 6 → kIn lo hi (b + 2 + (1 + i)) 1008)
abbrev inGraph (lo hi b n : Nat) : Prop := (kIn lo hi b 9 ∧ kIn lo hi (b + 1) (1000 + n) ∧ kIn lo hi (b + 2) (1000 + n)) ∧ n < 1000
set_option maxHeartbeats 4000000 in
set_option maxRecDepth 100000 in
theorem c3_J7_fill_53178 {lo hi : Nat} {l : Launch} {D : va_G} {B t0 : Nat} (hl9 : l.stackTraces = false) (S : jS) (X9 : jMem) (z : Nat → Prop) (a0 n0 : Nat) (ha0 : kIn lo hi a0 (1000 + n0)) (hn0 : n0 < 1000) (p1 : Int32) : jCf l D B t0 yJ7_fill_53178 cJ7_fill_53178 4 none rm_J7_fill_53178 [.ref (B + a0), .int p1] (memG lo hi D B S X9) z (f_J7_fill_53178 S a0 n0 p1) rvV (fun S9 M9 => M9 = memG lo hi D B S9 X9) z := by
  refine jC_of hl9 (me_J7_fill_53178).1 [(0, .ref (B + a0)), (1, .int p1)] ⟨by decide +kernel, Nat.le_of_ble_eq_true rfl⟩ rfl (fun κ hl hD hB hT X htab hin => ?_)
  subst hl hD hB hT
  have X : jX κ RJ7 cJ7_fill_53178 4 none := X
  unfold f_J7_fill_53178
  refine j_iconst X (0 : Int32) dJ7_fill_53178_0 (by rfl) ?_
  refine j_istore_n X [(2, .int (0 : Int32)), (0, .ref (kB κ + a0)), (1, .int p1)] dJ7_fill_53178_1 rfl (by decide) rfl ?_
  refine j_aload_n X 1 rfl dJ7_fill_53178_2 rfl ?_
  refine j_alen X 0 rfl rfl dJ7_fill_53178_3 ((memG_at ha0).trans (congrArg some (cellK_i (n := n0) hn0 _))) ?_
  refine j_letE (fun x1 => ?_)
  refine j_istore_n X [(3, .int x1), (2, .int (0 : Int32)), (0, .ref (kB κ + a0)), (1, .int p1)] dJ7_fill_53178_4 rfl (by decide) rfl ?_
  refine j_lv [2, 3, 1, 0] rfl ?_
  refine j_loop (fun (k : jS → Int32 → Option (jR jS)) => ∀ (S3 : jS) (x4 : Int32), J κ 4 rm_J7_fill_53178 (jQf κ rm_J7_fill_53178 rvV (fun S9 M9 => M9 = memG lo hi (kD κ) (kB κ) S9 X9) z) (k S3 x4) (memG lo hi (kD κ) (kB κ) S3 X9) z 0 0 [(0, .ref (kB κ + a0)), (1, .int p1), (2, .int x4), (3, .int x1)] 5 []) (fun _ _ => j_none) (fun rec2 hrec2 => ?_) 1000 _ _
  intro S3 x4
  refine j_iload_n X 2 rfl dJ7_fill_53178_5 rfl ?_
  refine j_iload_n X 3 rfl dJ7_fill_53178_6 rfl ?_
  refine j_icmp_ge X 20 dJ7_fill_53178_7 (by decide) ?_ ?_
  · exact j_vret X dJ7_fill_53178_20 rfl (fun _ h => h)
  · refine j_aload_n X 0 rfl dJ7_fill_53178_10 rfl ?_
    refine j_iload_n X 2 rfl dJ7_fill_53178_11 rfl ?_
    refine j_iload_n X 1 rfl dJ7_fill_53178_12 rfl ?_
    refine g_iast X n0 ha0 hn0 dJ7_fill_53178_13 (fun h7 S5 => ?_)
    refine j_iincL X 2 (fun x6 => [(2, .int x6), (0, .ref (kB κ + a0)), (1, .int p1), (3, .int x1)]) dJ7_fill_53178_14 rfl (by rfl) (by decide) (fun _ => rfl) (fun x6 => ?_)
    refine j_goto X 5 dJ7_fill_53178_17 (by decide) ?_
    refine j_lv [1, 2, 0, 3] rfl ?_
    exact hrec2 S5 x6
set_option maxHeartbeats 4000000 in
set_option maxRecDepth 100000 in
theorem c3_X5_forgetTrial {lo hi : Nat} {l : Launch} {D : va_G} {B t0 : Nat} (hl9 : l.stackTraces = false) (S : jS) (X9 : jMem) (z : Nat → Prop) (b0 : Nat) (hb0 : inPast lo hi b0) (p1 : Int32) : jCf l D B t0 yX5_forgetTrial cX5_forgetTrial 2 none rm_X5_forgetTrial [.ref (B + b0), .int p1] (memG lo hi D B S X9) z (f_X5_forgetTrial S b0 p1) rvV (fun S9 M9 => M9 = memG lo hi D B S9 X9) z := by
  refine jC_of hl9 (me_X5_forgetTrial).1 [(0, .ref (B + b0)), (1, .int p1)] ⟨by decide +kernel, Nat.le_of_ble_eq_true rfl⟩ rfl (fun κ hl hD hB hT X htab hin => ?_)
  subst hl hD hB hT
  have X : jX κ RX5 cX5_forgetTrial 2 none := X
  unfold f_X5_forgetTrial
  refine j_aload_n X 0 rfl dX5_forgetTrial_0 rfl ?_
  refine g_getf X 0 hb0.1 cf_X5 (by decide) fl_X5_9 dX5_forgetTrial_1 rfl rfl ?_
  refine j_iload_n X 1 rfl dX5_forgetTrial_4 rfl ?_
  refine j_iconst X (-1 : Int32) dX5_forgetTrial_5 (by rfl) ?_
  refine g_iast X 6 hb0.2.1 (by decide) dX5_forgetTrial_6 (fun h7 S1 => ?_)
  refine j_aload_n X 0 rfl dX5_forgetTrial_7 rfl ?_
  refine g_getf X 1 hb0.1 cf_X5 (by decide) fl_X5_17 dX5_forgetTrial_8 rfl rfl ?_
  refine j_iload_n X 1 rfl dX5_forgetTrial_11 rfl ?_
  refine g_aald X 4 6 hb0.2.2.1 rfl rfl dX5_forgetTrial_12 rfl rfl (fun h2 => ?_)
  refine j_iconst X (-1 : Int32) dX5_forgetTrial_13 (by rfl) ?_
  refine j_call0S X 0 0 (c3_J7_fill_53178 X.tr S1 X9 z ((b0 + 2) + (1 + p1.toNatClampNeg)) 8 (hb0.2.2.2.2.2.2 _ h2) (by decide) (-1 : Int32)) me_J7_fill_53178 ml_X5_36 st_J7_fill_53178 dX5_forgetTrial_14 (rest := []) rfl rfl (by decide) (by decide) (Nat.le_of_ble_eq_true rfl) (fun v6 S3 M5 hM4 => ?_)
  subst M5
  refine j_st (st1 := []) rfl ?_
  exact j_vret X dX5_forgetTrial_17 rfl (fun _ h => h)
set_option maxHeartbeats 4000000 in
set_option maxRecDepth 100000 in
theorem c3_X5_forget {lo hi : Nat} {l : Launch} {D : va_G} {B t0 : Nat} (hl9 : l.stackTraces = false) (S : jS) (X9 : jMem) (z : Nat → Prop) (b0 : Nat) (hb0 : inPast lo hi b0) : jCf l D B t0 yX5_forget cX5_forget 2 none rm_X5_forget [.ref (B + b0)] (memG lo hi D B S X9) z (f_X5_forget S b0) rvV (fun S9 M9 => M9 = memG lo hi D B S9 X9) z := by
  refine jC_of hl9 (me_X5_forget).1 [(0, .ref (B + b0))] ⟨by decide +kernel, Nat.le_of_ble_eq_true rfl⟩ rfl (fun κ hl hD hB hT X htab hin => ?_)
  subst hl hD hB hT
  have X : jX κ RX5 cX5_forget 2 none := X
  unfold f_X5_forget
  refine j_iconst X (0 : Int32) dX5_forget_0 (by rfl) ?_
  refine j_istore_n X [(1, .int (0 : Int32)), (0, .ref (kB κ + b0))] dX5_forget_1 rfl (by decide) rfl ?_
  refine j_lv [1, 0] rfl ?_
  refine j_loop (fun (k : jS → Int32 → Option (jR jS)) => ∀ (S2 : jS) (x3 : Int32), J κ 2 rm_X5_forget (jQf κ rm_X5_forget rvV (fun S9 M9 => M9 = memG lo hi (kD κ) (kB κ) S9 X9) z) (k S2 x3) (memG lo hi (kD κ) (kB κ) S2 X9) z 0 0 [(0, .ref (kB κ + b0)), (1, .int x3)] 2 []) (fun _ _ => j_none) (fun rec1 hrec1 => ?_) 1000 _ _
  intro S2 x3
  refine j_iload_n X 1 rfl dX5_forget_2 rfl ?_
  refine j_bipush X (6 : Int32) dX5_forget_3 (by rfl) ?_
  refine j_icmp_ge X 19 dX5_forget_5 (by decide) ?_ ?_
  · refine j_aload_n X 0 rfl dX5_forget_19 rfl ?_
    refine g_getf X 2 hb0.1 cf_X5 (by decide) fl_X5_20 dX5_forget_20 rfl rfl ?_
    refine j_iconst X (-1 : Int32) dX5_forget_23 (by rfl) ?_
    refine j_call0S X 0 0 (c3_J7_fill_53178 X.tr S2 X9 z (b0 + 9) 8 hb0.2.2.2.1 (by decide) (-1 : Int32)) me_J7_fill_53178 ml_X5_36 st_J7_fill_53178 dX5_forget_24 (rest := []) rfl rfl (by decide) (by decide) (Nat.le_of_ble_eq_true rfl) (fun v15 S4 M14 hM13 => ?_)
    subst M14
    refine j_st (st1 := []) rfl ?_
    refine j_aload_n X 0 rfl dX5_forget_27 rfl ?_
    refine g_getf X 3 hb0.1 cf_X5 (by decide) fl_X5_23 dX5_forget_28 rfl rfl ?_
    refine j_iconst X (0 : Int32) dX5_forget_31 (by rfl) ?_
    refine j_call0S X 0 0 (c3_J7_fill_53178 X.tr S4 X9 z (b0 + 10) 8 hb0.2.2.2.2.1 (by decide) (0 : Int32)) me_J7_fill_53178 ml_X5_36 st_J7_fill_53178 dX5_forget_32 (rest := []) rfl rfl (by decide) (by decide) (Nat.le_of_ble_eq_true rfl) (fun v12 S5 M11 hM10 => ?_)
    subst M11
    refine j_st (st1 := []) rfl ?_
    refine j_aload_n X 0 rfl dX5_forget_35 rfl ?_
    refine g_getf X 4 hb0.1 cf_X5 (by decide) fl_X5_26 dX5_forget_36 rfl rfl ?_
    refine j_iconst X (0 : Int32) dX5_forget_39 (by rfl) ?_
    refine j_call0S X 0 0 (c3_J7_fill_53178 X.tr S5 X9 z (b0 + 11) 8 hb0.2.2.2.2.2.1 (by decide) (0 : Int32)) me_J7_fill_53178 ml_X5_36 st_J7_fill_53178 dX5_forget_40 (rest := []) rfl rfl (by decide) (by decide) (Nat.le_of_ble_eq_true rfl) (fun v9 S6 M8 hM7 => ?_)
    subst M8
    refine j_st (st1 := []) rfl ?_
    exact j_vret X dX5_forget_43 rfl (fun _ h => h)
  · refine j_aload_n X 0 rfl dX5_forget_8 rfl ?_
    refine j_iload_n X 1 rfl dX5_forget_9 rfl ?_
    refine j_call0V X 0 0 (c3_X5_forgetTrial X.tr S2 X9 z b0 hb0 x3) me_X5_forgetTrial ml_X5_32 iv_X5_forgetTrial cf_X5 dX5_forget_10 (memG_at hb0.1) (rest := []) rfl rfl (by decide) (by decide) (Nat.le_of_ble_eq_true rfl) (fun v20 S16 M19 hM18 => ?_)
    subst M19
    refine j_st (st1 := []) rfl ?_
    refine j_iincL X 1 (fun x17 => [(1, .int x17), (0, .ref (kB κ + b0))]) dX5_forget_13 rfl (by rfl) (by decide) (fun _ => rfl) (fun x17 => ?_)
    refine j_goto X 2 dX5_forget_16 (by decide) ?_
    refine j_lv [1, 0] rfl ?_
    exact hrec1 S16 x17
set_option maxHeartbeats 4000000 in
set_option maxRecDepth 100000 in
theorem c3_X4_arrange {lo hi : Nat} {l : Launch} {D : va_G} {B t0 : Nat} (hl9 : l.stackTraces = false) (S : jS) (X9 : jMem) (z : Nat → Prop) (b0 n0 : Nat) (hb0 : inGraph lo hi b0 n0) : jCf l D B t0 yX4_arrange cX4_arrange 4 none rm_X4_arrange [.ref (B + b0)] (memG lo hi D B S X9) z (f_X4_arrange S b0 n0) rvV (fun S9 M9 => M9 = memG lo hi D B S9 X9) z := by
  refine jC_of hl9 (me_X4_arrange).1 [(0, .ref (B + b0))] ⟨by decide +kernel, Nat.le_of_ble_eq_true rfl⟩ rfl (fun κ hl hD hB hT X htab hin => ?_)
  subst hl hD hB hT
  have X : jX κ RX4 cX4_arrange 4 none := X
  unfold f_X4_arrange
  refine j_iconst X (0 : Int32) dX4_arrange_0 (by rfl) ?_
  refine j_istore_n X [(1, .int (0 : Int32)), (0, .ref (kB κ + b0))] dX4_arrange_1 rfl (by decide) rfl ?_
  refine j_iconst X (0 : Int32) dX4_arrange_2 (by rfl) ?_
  refine j_istore_n X [(2, .int (0 : Int32)), (1, .int (0 : Int32)), (0, .ref (kB κ + b0))] dX4_arrange_3 rfl (by decide) rfl ?_
  refine j_lv [2, 1, 0] rfl ?_
  refine j_loop (fun (k : jS → Int32 → Int32 → Option (jR jS)) => ∀ (S2 : jS) (x3 : Int32) (x4 : Int32), J κ 4 rm_X4_arrange (jQf κ rm_X4_arrange rvV (fun S9 M9 => M9 = memG lo hi (kD κ) (kB κ) S9 X9) z) (k S2 x3 x4) (memG lo hi (kD κ) (kB κ) S2 X9) z 0 0 [(0, .ref (kB κ + b0)), (1, .int x3), (2, .int x4)] 4 []) (fun _ _ _ => j_none) (fun rec1 hrec1 => ?_) 1000 _ _ _
  intro S2 x3 x4
  refine j_iload_n X 2 rfl dX4_arrange_4 rfl ?_
  refine j_aload_n X 0 rfl dX4_arrange_5 rfl ?_
  refine g_getf X 0 hb0.1.1 cf_X4 (by decide) fl_X4_7 dX4_arrange_6 rfl rfl ?_
  refine j_alen X 0 rfl rfl dX4_arrange_9 ((memG_at hb0.1.2.1).trans (congrArg some (cellK_i (n := n0) hb0.2 _))) ?_
  refine j_icmp_ge X 74 dX4_arrange_10 (by decide) ?_ ?_
  · exact j_vret X dX4_arrange_74 rfl (fun _ h => h)
  · refine j_iconst X (0 : Int32) dX4_arrange_13 (by rfl) ?_
    refine j_istore_n X [(3, .int (0 : Int32)), (0, .ref (kB κ + b0)), (1, .int x3), (2, .int x4)] dX4_arrange_14 rfl (by decide) rfl ?_
    refine j_lv [1, 2, 3, 0] rfl ?_
    refine j_loop (fun (k : jS → Int32 → Int32 → Option (jR jS)) => ∀ (S6 : jS) (x7 : Int32) (x8 : Int32), J κ 4 rm_X4_arrange (jQf κ rm_X4_arrange rvV (fun S9 M9 => M9 = memG lo hi (kD κ) (kB κ) S9 X9) z) (k S6 x7 x8) (memG lo hi (kD κ) (kB κ) S6 X9) z 0 0 [(0, .ref (kB κ + b0)), (1, .int x7), (2, .int x4), (3, .int x8)] 15 []) (fun _ _ _ => j_none) (fun rec5 hrec5 => ?_) 1000 _ _ _
    intro S6 x7 x8
    refine j_iload_n X 3 rfl dX4_arrange_15 rfl ?_
    refine j_aload_n X 0 rfl dX4_arrange_16 rfl ?_
    refine g_getf X 0 hb0.1.1 cf_X4 (by decide) fl_X4_7 dX4_arrange_17 rfl rfl ?_
    refine j_alen X 0 rfl rfl dX4_arrange_20 ((memG_at hb0.1.2.1).trans (congrArg some (cellK_i (n := n0) hb0.2 _))) ?_
    refine j_icmp_ge X 68 dX4_arrange_21 (by decide) ?_ ?_
    · refine j_iincL X 2 (fun x9 => [(2, .int x9), (0, .ref (kB κ + b0)), (1, .int x7), (3, .int x8)]) dX4_arrange_68 rfl (by rfl) (by decide) (fun _ => rfl) (fun x9 => ?_)
      refine j_goto X 4 dX4_arrange_71 (by decide) ?_
      refine j_lv [1, 2, 0] rfl ?_
      exact hrec1 S6 x7 x9
    · refine j_iload_n X 1 rfl dX4_arrange_24 rfl ?_
      refine j_iload_n X 3 rfl dX4_arrange_25 rfl ?_
      refine j_call0SN X 0 0 (c_X10_hasBit X.tr (memG lo hi (kD κ) (kB κ) S6 X9) z x7 x8) me_X10_hasBit mn_X4_19 st_X10_hasBit dX4_arrange_26 (rest := []) rfl rfl (by decide) (by decide) (Nat.le_of_ble_eq_true rfl) (fun v10 u28 M27 hM26 => ?_)
      subst M27
      refine j_st (st1 := [.int v10]) rfl ?_
      refine j_join (fun k11 => ∀ (S23 : jS) (x24 : Int32), J κ 4 rm_X4_arrange (jQf κ rm_X4_arrange rvV (fun S9 M9 => M9 = memG lo hi (kD κ) (kB κ) S9 X9) z) (k11 S23 x24) (memG lo hi (kD κ) (kB κ) S23 X9) z 0 0 [(0, .ref (kB κ + b0)), (1, .int x24), (2, .int x4), (3, .int x8)] 62 []) ?_ (fun k11 hk11 => ?_)
      · intro S23 x24
        refine j_iincL X 3 (fun x25 => [(3, .int x25), (0, .ref (kB κ + b0)), (1, .int x24), (2, .int x4)]) dX4_arrange_62 rfl (by rfl) (by decide) (fun _ => rfl) (fun x25 => ?_)
        refine j_goto X 15 dX4_arrange_65 (by decide) ?_
        refine j_lv [1, 2, 3, 0] rfl ?_
        exact hrec5 S23 x24 x25
      · refine j_if_ne X 62 dX4_arrange_29 (by decide) ?_ ?_
        · refine j_aload_n X 0 rfl dX4_arrange_32 rfl ?_
          refine g_getf X 0 hb0.1.1 cf_X4 (by decide) fl_X4_7 dX4_arrange_33 rfl rfl ?_
          refine j_iload_n X 3 rfl dX4_arrange_36 rfl ?_
          refine g_iald X n0 hb0.1.2.1 hb0.2 dX4_arrange_37 (fun h22 => ?_)
          refine j_iload_n X 1 rfl dX4_arrange_38 rfl ?_
          refine j_iconst X (-1 : Int32) dX4_arrange_39 (by rfl) ?_
          refine j_ixor X dX4_arrange_40 ?_
          refine j_iand X dX4_arrange_41 ?_
          refine j_if_ne X 62 dX4_arrange_42 (by decide) ?_ ?_
          · refine j_aload_n X 0 rfl dX4_arrange_45 rfl ?_
            refine g_getf X 1 hb0.1.1 cf_X4 (by decide) fl_X4_13 dX4_arrange_46 rfl rfl ?_
            refine j_iload_n X 1 rfl dX4_arrange_49 rfl ?_
            refine j_call0S X 0 0 (c_J6_bitCount_0f7a4 X.tr (memG lo hi (kD κ) (kB κ) S6 X9) z x7) me_J6_bitCount_0f7a4 ml_X4_25 st_J6_bitCount_0f7a4 dX4_arrange_50 (rest := [.ref (kB κ + (b0 + 2))]) rfl rfl (by decide) (by decide) (Nat.le_of_ble_eq_true rfl) (fun v12 u21 M20 hM19 => ?_)
            subst M20
            refine j_st (st1 := [.int v12, .ref (kB κ + (b0 + 2))]) rfl ?_
            refine j_iload_n X 3 rfl dX4_arrange_53 rfl ?_
            refine g_iast X n0 hb0.1.2.2 hb0.2 dX4_arrange_54 (fun h18 S13 => ?_)
            refine j_iload_n X 1 rfl dX4_arrange_55 rfl ?_
            refine j_iload_n X 3 rfl dX4_arrange_56 rfl ?_
            refine j_iconst X (1 : Int32) dX4_arrange_57 (by rfl) ?_
            refine j_call0SN X 0 0 (c_X10_withBit X.tr (memG lo hi (kD κ) (kB κ) S13 X9) z x7 x8 (1 : Int32)) me_X10_withBit mn_X4_31 st_X10_withBit dX4_arrange_58 (rest := []) rfl rfl (by decide) (by decide) (Nat.le_of_ble_eq_true rfl) (fun v14 u17 M16 hM15 => ?_)
            subst M16
            refine j_st (st1 := [.int v14]) rfl ?_
            refine j_istore_n X [(1, .int v14), (0, .ref (kB κ + b0)), (2, .int x4), (3, .int x8)] dX4_arrange_61 rfl (by decide) rfl ?_
            refine j_lv [1, 0, 2, 3] rfl ?_
            exact hk11 S13 v14
          · exact hk11 S6 x7
        · exact hk11 S6 x7
end G3
