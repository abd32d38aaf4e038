section GEN
def f_X8_signAt (S : jS) (b0 : Nat) (p1 : Int32) : Option (jR Unit) := joinK (fun (x4 : Int32) => some (0, x4, ())) (fun k1 => joinK (fun (_ : Unit) => k1 (0 : Int32)) (fun k2 => (if p1 < (0 : Int32) then k2 () else (if (S b0 1) ≤ p1 then k2 () else chk (inb p1 60) (k1 ((S (b0 + 1) p1.toNatClampNeg)))))))
abbrev rm_X8_signAt : Room := { frames := 0, cells := 0, slots := 0, locals := 0 }
set_option maxHeartbeats 4000000 in
set_option maxRecDepth 100000 in
theorem c_X8_signAt {l : Launch} {D : va_G} {B t0 : Nat} (hl9 : l.stackTraces = false) (S : jS) (X9 : jMem) (z : Nat → Prop) (b0 : Nat) (hb0 : isText b0) (p1 : Int32) : jCf l D B t0 yX8_signAt cX8_signAt 2 (some .int) rm_X8_signAt [.ref (B + b0), .int p1] (memG 0 358 D B S X9) z (f_X8_signAt S b0 p1) rvI (fun (S9 : Unit) M9 => M9 = memG 0 358 D B S X9) z := by
  refine jC_of hl9 (me_X8_signAt).1 [(0, .ref (B + b0)), (1, .int p1)] ⟨by decide +kernel, Nat.le_of_ble_eq_true rfl⟩ rfl (fun κ hl hD hB hT X htab hin => ?_)
  subst hl hD hB hT
  have X : jX κ RX8 cX8_signAt 2 (some .int) := X
  unfold f_X8_signAt
  refine j_iload_n X 1 rfl dX8_signAt_0 rfl ?_
  refine j_join (fun k1 => ∀ (x4 : Int32), J κ 2 rm_X8_signAt (jQf κ rm_X8_signAt rvI (fun (S9 : Unit) M9 => M9 = memG 0 358 (kD κ) (kB κ) S X9) z) (k1 x4) (memG 0 358 (kD κ) (kB κ) S X9) z 0 0 [] 22 [.int x4]) ?_ (fun k1 hk1 => ?_)
  · intro x4
    exact j_iret X dX8_signAt_22 rfl (fun _ h => h)
  · refine j_join (fun k2 => ∀ (_ : Unit), J κ 2 rm_X8_signAt (jQf κ rm_X8_signAt rvI (fun (S9 : Unit) M9 => M9 = memG 0 358 (kD κ) (kB κ) S X9) z) (k2 ()) (memG 0 358 (kD κ) (kB κ) S X9) z 0 0 [] 21 []) ?_ (fun k2 hk2 => ?_)
    · intro _
      refine j_iconst X (0 : Int32) dX8_signAt_21 (by rfl) ?_
      exact hk1 (0 : Int32)
    · refine j_if_lt X 21 dX8_signAt_1 (by decide) ?_ ?_
      · refine j_lv [] rfl ?_
        exact hk2 ()
      · refine j_iload_n X 1 rfl dX8_signAt_4 rfl ?_
        refine j_aload_n X 0 rfl dX8_signAt_5 rfl ?_
        refine g_getf X 1 (kText hb0).1 cf_X8 (by decide) fl_X8_15 dX8_signAt_6 rfl rfl ?_
        refine j_icmp_ge X 21 dX8_signAt_9 (by decide) ?_ ?_
        · refine j_lv [] rfl ?_
          exact hk2 ()
        · refine j_aload_n X 0 rfl dX8_signAt_12 rfl ?_
          refine g_getf X 0 (kText hb0).1 cf_X8 (by decide) fl_X8_9 dX8_signAt_13 rfl rfl ?_
          refine j_iload_n X 1 rfl dX8_signAt_16 rfl ?_
          refine g_cald X 60 (kText hb0).2 (by decide) dX8_signAt_17 (fun h3 => ?_)
          refine j_goto X 22 dX8_signAt_18 (by decide) ?_
          refine j_lv [] rfl ?_
          exact hk1 ((S (b0 + 1) p1.toNatClampNeg))
def f_X7_stateInFactor (S : jS) (p1 : Int32) : Option (jR jS) := (if p1 = (33 : Int32) then some (0, (0 : Int32), S) else (if p1 = (40 : Int32) then letE (jset S 32 1 (((S 32 1) + (1 : Int32)))) fun S1 => joinK (fun (x3 : Int32) => some (0, x3, S1)) (fun k2 => (if (8 : Int32) < (S1 32 1) then k2 (-1 : Int32) else k2 (0 : Int32))) else (if p1 = (42 : Int32) then some (0, (6 : Int32), S) else (if p1 = (64 : Int32) then some (0, (5 : Int32), S) else (if p1 = (97 : Int32) then some (0, (1 : Int32), S) else (if p1 = (108 : Int32) then some (0, (1 : Int32), S) else (if p1 = (112 : Int32) then some (0, (1 : Int32), S) else (if p1 = (116 : Int32) then some (0, (4 : Int32), S) else some (0, (-1 : Int32), S)))))))))
abbrev rm_X7_stateInFactor : Room := { frames := 0, cells := 0, slots := 0, locals := 0 }
set_option maxHeartbeats 4000000 in
set_option maxRecDepth 100000 in
theorem c_X7_stateInFactor {l : Launch} {D : va_G} {B t0 : Nat} (hl9 : l.stackTraces = false) (S : jS) (X9 : jMem) (z : Nat → Prop) (p1 : Int32) : jCf l D B t0 yX7_stateInFactor cX7_stateInFactor 2 (some .int) rm_X7_stateInFactor [.ref (B + 32), .int p1] (memG 0 358 D B S X9) z (f_X7_stateInFactor S p1) rvI (fun S9 M9 => M9 = memG 0 358 D B S9 X9) z := by
  refine jC_of hl9 (me_X7_stateInFactor).1 [(0, .ref (B + 32)), (1, .int p1)] ⟨by decide +kernel, Nat.le_of_ble_eq_true rfl⟩ rfl (fun κ hl hD hB hT X htab hin => ?_)
  subst hl hD hB hT
  have X : jX κ RX7 cX7_stateInFactor 2 (some .int) := X
  unfold f_X7_stateInFactor
  refine j_iload_n X 1 rfl dX7_stateInFactor_0 rfl ?_
  refine j_ite (fun hc1_0 => ?_) (fun hc1_0 => ?_)
  · refine j_lookup (off := 75) X 76 dX7_stateInFactor_1 rfl (by first | (rw [hc1_0]; done) | (rw [hc1_0]; rfl)) (by decide) ?_
    refine j_iconst X (0 : Int32) dX7_stateInFactor_76 (by rfl) ?_
    exact j_iret X dX7_stateInFactor_77 rfl (fun _ h => h)
  · refine j_ite (fun hc1_1 => ?_) (fun hc1_1 => ?_)
    · refine j_lookup (off := 77) X 78 dX7_stateInFactor_1 rfl (by first | (rw [hc1_1]; done) | (rw [hc1_1]; rfl)) (by decide) ?_
      refine j_aload_n X 0 rfl dX7_stateInFactor_78 rfl ?_
      refine j_dup X dX7_stateInFactor_79 rfl ?_
      refine g_getf X 1 kf_32 cf_X7 (by decide) fl_X7_15 dX7_stateInFactor_80 rfl rfl ?_
      refine j_iconst X (1 : Int32) dX7_stateInFactor_83 (by rfl) ?_
      refine j_iadd X dX7_stateInFactor_84 ?_
      refine g_putf X 1 kf_32 cf_X7 (by decide) fl_X7_15 dX7_stateInFactor_85 rfl rfl rfl rfl (Nat.le_of_ble_eq_true rfl) rfl (fun S1 => ?_)
      refine j_aload_n X 0 rfl dX7_stateInFactor_88 rfl ?_
      refine g_getf X 1 kf_32 cf_X7 (by decide) fl_X7_15 dX7_stateInFactor_89 rfl rfl ?_
      refine j_bipush X (8 : Int32) dX7_stateInFactor_92 (by rfl) ?_
      refine j_join (fun k2 => ∀ (x3 : Int32), J κ 2 rm_X7_stateInFactor (jQf κ rm_X7_stateInFactor rvI (fun S9 M9 => M9 = memG 0 358 (kD κ) (kB κ) S9 X9) z) (k2 x3) (memG 0 358 (kD κ) (kB κ) S1 X9) z 0 0 [] 102 [.int x3]) ?_ (fun k2 hk2 => ?_)
      · intro x3
        exact j_iret X dX7_stateInFactor_102 rfl (fun _ h => h)
      · refine j_icmp_gt X 101 dX7_stateInFactor_94 (by decide) ?_ ?_
        · refine j_iconst X (-1 : Int32) dX7_stateInFactor_101 (by rfl) ?_
          refine j_lv [] rfl ?_
          exact hk2 (-1 : Int32)
        · refine j_iconst X (0 : Int32) dX7_stateInFactor_97 (by rfl) ?_
          refine j_goto X 102 dX7_stateInFactor_98 (by decide) ?_
          refine j_lv [] rfl ?_
          exact hk2 (0 : Int32)
    · refine j_ite (fun hc1_2 => ?_) (fun hc1_2 => ?_)
      · refine j_lookup (off := 102) X 103 dX7_stateInFactor_1 rfl (by first | (rw [hc1_2]; done) | (rw [hc1_2]; rfl)) (by decide) ?_
        refine j_bipush X (6 : Int32) dX7_stateInFactor_103 (by rfl) ?_
        exact j_iret X dX7_stateInFactor_105 rfl (fun _ h => h)
      · refine j_ite (fun hc1_3 => ?_) (fun hc1_3 => ?_)
        · refine j_lookup (off := 109) X 110 dX7_stateInFactor_1 rfl (by first | (rw [hc1_3]; done) | (rw [hc1_3]; rfl)) (by decide) ?_
          refine j_iconst X (5 : Int32) dX7_stateInFactor_110 (by rfl) ?_
          exact j_iret X dX7_stateInFactor_111 rfl (fun _ h => h)
        · refine j_ite (fun hc1_4 => ?_) (fun hc1_4 => ?_)
          · refine j_lookup (off := 105) X 106 dX7_stateInFactor_1 rfl (by first | (rw [hc1_4]; done) | (rw [hc1_4]; rfl)) (by decide) ?_
            refine j_iconst X (1 : Int32) dX7_stateInFactor_106 (by rfl) ?_
            exact j_iret X dX7_stateInFactor_107 rfl (fun _ h => h)
          · refine j_ite (fun hc1_5 => ?_) (fun hc1_5 => ?_)
            · refine j_lookup (off := 105) X 106 dX7_stateInFactor_1 rfl (by first | (rw [hc1_5]; done) | (rw [hc1_5]; rfl)) (by decide) ?_
              refine j_iconst X (1 : Int32) dX7_stateInFactor_106 (by rfl) ?_
              exact j_iret X dX7_stateInFactor_107 rfl (fun _ h => h)
            · refine j_ite (fun hc1_6 => ?_) (fun hc1_6 => ?_)
              · refine j_lookup (off := 105) X 106 dX7_stateInFactor_1 rfl (by first | (rw [hc1_6]; done) | (rw [hc1_6]; rfl)) (by decide) ?_
                refine j_iconst X (1 : Int32) dX7_stateInFactor_106 (by rfl) ?_
                exact j_iret X dX7_stateInFactor_107 rfl (fun _ h => h)
              · refine j_ite (fun hc1_7 => ?_) (fun hc1_7 => ?_)
                · refine j_lookup (off := 107) X 108 dX7_stateInFactor_1 rfl (by first | (rw [hc1_7]; done) | (rw [hc1_7]; rfl)) (by decide) ?_
                  refine j_iconst X (4 : Int32) dX7_stateInFactor_108 (by rfl) ?_
                  exact j_iret X dX7_stateInFactor_109 rfl (fun _ h => h)
                · refine j_lookup (off := 111) X 112 dX7_stateInFactor_1 rfl ((lv_osw hc1_0 rfl).trans ((lv_osw hc1_1 rfl).trans ((lv_osw hc1_2 rfl).trans ((lv_osw hc1_3 rfl).trans ((lv_osw hc1_4 rfl).trans ((lv_osw hc1_5 rfl).trans ((lv_osw hc1_6 rfl).trans ((lv_osw hc1_7 rfl).trans (rfl))))))))) (by decide) ?_
                  refine j_iconst X (-1 : Int32) dX7_stateInFactor_112 (by rfl) ?_
                  exact j_iret X dX7_stateInFactor_113 rfl (fun _ h => h)
def f_X7_stateBehindFactor (S : jS) (p1 : Int32) : Option (jR jS) := (if p1 = (38 : Int32) then some (0, (0 : Int32), S) else (if p1 = (41 : Int32) then letE (jset S 32 1 (((S 32 1) - (1 : Int32)))) fun S1 => joinK (fun (x3 : Int32) => some (0, x3, S1)) (fun k2 => (if (S1 32 1) < (0 : Int32) then k2 (-1 : Int32) else k2 (6 : Int32))) else (if p1 = (124 : Int32) then some (0, (0 : Int32), S) else some (0, (-1 : Int32), S))))
abbrev rm_X7_stateBehindFactor : Room := { frames := 0, cells := 0, slots := 0, locals := 0 }
set_option maxHeartbeats 4000000 in
set_option maxRecDepth 100000 in
theorem c_X7_stateBehindFactor {l : Launch} {D : va_G} {B t0 : Nat} (hl9 : l.stackTraces = false) (S : jS) (X9 : jMem) (z : Nat → Prop) (p1 : Int32) : jCf l D B t0 yX7_stateBehindFactor cX7_stateBehindFactor 2 (some .int) rm_X7_stateBehindFactor [.ref (B + 32), .int p1] (memG 0 358 D B S X9) z (f_X7_stateBehindFactor S p1) rvI (fun S9 M9 => M9 = memG 0 358 D B S9 X9) z := by
  refine jC_of hl9 (me_X7_stateBehindFactor).1 [(0, .ref (B + 32)), (1, .int p1)] ⟨by decide +kernel, Nat.le_of_ble_eq_true rfl⟩ rfl (fun κ hl hD hB hT X htab hin => ?_)
  subst hl hD hB hT
  have X : jX κ RX7 cX7_stateBehindFactor 2 (some .int) := X
  unfold f_X7_stateBehindFactor
  refine j_iload_n X 1 rfl dX7_stateBehindFactor_0 rfl ?_
  refine j_ite (fun hc1_0 => ?_) (fun hc1_0 => ?_)
  · refine j_lookup (off := 35) X 36 dX7_stateBehindFactor_1 rfl (by first | (rw [hc1_0]; done) | (rw [hc1_0]; rfl)) (by decide) ?_
    refine j_iconst X (0 : Int32) dX7_stateBehindFactor_36 (by rfl) ?_
    exact j_iret X dX7_stateBehindFactor_37 rfl (fun _ h => h)
  · refine j_ite (fun hc1_1 => ?_) (fun hc1_1 => ?_)
    · refine j_lookup (off := 37) X 38 dX7_stateBehindFactor_1 rfl (by first | (rw [hc1_1]; done) | (rw [hc1_1]; rfl)) (by decide) ?_
      refine j_aload_n X 0 rfl dX7_stateBehindFactor_38 rfl ?_
      refine j_dup X dX7_stateBehindFactor_39 rfl ?_
      refine g_getf X 1 kf_32 cf_X7 (by decide) fl_X7_15 dX7_stateBehindFactor_40 rfl rfl ?_
      refine j_iconst X (1 : Int32) dX7_stateBehindFactor_43 (by rfl) ?_
      refine j_isub X dX7_stateBehindFactor_44 ?_
      refine g_putf X 1 kf_32 cf_X7 (by decide) fl_X7_15 dX7_stateBehindFactor_45 rfl rfl rfl rfl (Nat.le_of_ble_eq_true rfl) rfl (fun S1 => ?_)
      refine j_aload_n X 0 rfl dX7_stateBehindFactor_48 rfl ?_
      refine g_getf X 1 kf_32 cf_X7 (by decide) fl_X7_15 dX7_stateBehindFactor_49 rfl rfl ?_
      refine j_join (fun k2 => ∀ (x3 : Int32), J κ 2 rm_X7_stateBehindFactor (jQf κ rm_X7_stateBehindFactor rvI (fun S9 M9 => M9 = memG 0 358 (kD κ) (kB κ) S9 X9) z) (k2 x3) (memG 0 358 (kD κ) (kB κ) S1 X9) z 0 0 [] 61 [.int x3]) ?_ (fun k2 hk2 => ?_)
      · intro x3
        exact j_iret X dX7_stateBehindFactor_61 rfl (fun _ h => h)
      · refine j_if_lt X 60 dX7_stateBehindFactor_52 (by decide) ?_ ?_
        · refine j_iconst X (-1 : Int32) dX7_stateBehindFactor_60 (by rfl) ?_
          refine j_lv [] rfl ?_
          exact hk2 (-1 : Int32)
        · refine j_bipush X (6 : Int32) dX7_stateBehindFactor_55 (by rfl) ?_
          refine j_goto X 61 dX7_stateBehindFactor_57 (by decide) ?_
          refine j_lv [] rfl ?_
          exact hk2 (6 : Int32)
    · refine j_ite (fun hc1_2 => ?_) (fun hc1_2 => ?_)
      · refine j_lookup (off := 35) X 36 dX7_stateBehindFactor_1 rfl (by first | (rw [hc1_2]; done) | (rw [hc1_2]; rfl)) (by decide) ?_
        refine j_iconst X (0 : Int32) dX7_stateBehindFactor_36 (by rfl) ?_
        exact j_iret X dX7_stateBehindFactor_37 rfl (fun _ h => h)
      · refine j_lookup (off := 61) X 62 dX7_stateBehindFactor_1 rfl ((lv_osw hc1_0 rfl).trans ((lv_osw hc1_1 rfl).trans ((lv_osw hc1_2 rfl).trans (rfl)))) (by decide) ?_
        refine j_iconst X (-1 : Int32) dX7_stateBehindFactor_62 (by rfl) ?_
        exact j_iret X dX7_stateBehindFactor_63 rfl (fun _ h => h)
def f_X7_stateAfter (S : jS) (p1 : Int32) : Option (jR jS) := (if (S 32 0) = (0 : Int32) then jbin0 (f_X7_stateInFactor S p1) (fun v1 S2 => some (0, v1, S2)) else (if (S 32 0) = (1 : Int32) then joinK (fun (x7 : Int32) => some (0, x7, S)) (fun k5 => joinK (fun (_ : Unit) => k5 (2 : Int32)) (fun k6 => (if p1 = (61 : Int32) then k6 () else (if p1 = (60 : Int32) then k6 () else (if p1 = (62 : Int32) then k6 () else k5 (-1 : Int32)))))) else (if (S 32 0) = (2 : Int32) then joinK (fun (x10 : Int32) => some (0, x10, S)) (fun k8 => joinK (fun (_ : Unit) => k8 (-1 : Int32)) (fun k9 => (if p1 < (48 : Int32) then k9 () else (if (57 : Int32) < p1 then k9 () else k8 (3 : Int32))))) else (if (S 32 0) = (3 : Int32) then joinK (fun (S17 : jS) (x18 : Int32) => some (0, x18, S17)) (fun k11 => joinK (fun (_ : Unit) => jbin0 (f_X7_stateBehindFactor S p1) (fun v13 S14 => k11 S14 v13)) (fun k12 => (if p1 < (48 : Int32) then k12 () else (if (57 : Int32) < p1 then k12 () else k11 S (6 : Int32))))) else (if (S 32 0) = (4 : Int32) then joinK (fun (x21 : Int32) => some (0, x21, S)) (fun k19 => joinK (fun (_ : Unit) => k19 (-1 : Int32)) (fun k20 => (if p1 < (48 : Int32) then k20 () else (if (56 : Int32) ≤ p1 then k20 () else k19 (6 : Int32))))) else (if (S 32 0) = (5 : Int32) then joinK (fun (x24 : Int32) => some (0, x24, S)) (fun k22 => joinK (fun (_ : Unit) => k22 (-1 : Int32)) (fun k23 => (if p1 < (48 : Int32) then k23 () else (if (54 : Int32) ≤ p1 then k23 () else k22 (6 : Int32))))) else jbin0 (f_X7_stateBehindFactor S p1) (fun v25 S26 => some (0, v25, S26))))))))
abbrev rm_X7_stateAfter : Room := { frames := 1, cells := 0, slots := 0, locals := 21 }
set_option maxHeartbeats 4000000 in
set_option maxRecDepth 100000 in
theorem c_X7_stateAfter {l : Launch} {D : va_G} {B t0 : Nat} (hl9 : l.stackTraces = false) (S : jS) (X9 : jMem) (z : Nat → Prop) (p1 : Int32) : jCf l D B t0 yX7_stateAfter cX7_stateAfter 2 (some .int) rm_X7_stateAfter [.ref (B + 32), .int p1] (memG 0 358 D B S X9) z (f_X7_stateAfter S p1) rvI (fun S9 M9 => M9 = memG 0 358 D B S9 X9) z := by
  refine jC_of hl9 (me_X7_stateAfter).1 [(0, .ref (B + 32)), (1, .int p1)] ⟨by decide +kernel, Nat.le_of_ble_eq_true rfl⟩ rfl (fun κ hl hD hB hT X htab hin => ?_)
  subst hl hD hB hT
  have X : jX κ RX7 cX7_stateAfter 2 (some .int) := X
  unfold f_X7_stateAfter
  refine j_aload_n X 0 rfl dX7_stateAfter_0 rfl ?_
  refine g_getf X 0 kf_32 cf_X7 (by decide) fl_X7_11 dX7_stateAfter_1 rfl rfl ?_
  refine j_ite (fun hc4_0 => ?_) (fun hc4_0 => ?_)
  · refine j_table (off := 40) X 44 dX7_stateAfter_4 (by rw [hc4_0]; decide) (by rw [hc4_0]; decide) (by rw [hc4_0]; rfl) (by decide) ?_
    refine j_aload_n X 0 rfl dX7_stateAfter_44 rfl ?_
    refine j_iload_n X 1 rfl dX7_stateAfter_45 rfl ?_
    refine j_call0V X 0 0 (c_X7_stateInFactor X.tr S X9 z p1) me_X7_stateInFactor ml_X7_30 iv_X7_stateInFactor cf_X7 dX7_stateAfter_46 (memG_at kf_32) (rest := []) rfl rfl (by decide) (by decide) (Nat.le_of_ble_eq_true rfl) (fun v1 S2 M4 hM3 => ?_)
    subst M4
    refine j_st (st1 := [.int v1]) rfl ?_
    exact j_iret X dX7_stateAfter_49 rfl (fun _ h => h)
  · refine j_ite (fun hc4_1 => ?_) (fun hc4_1 => ?_)
    · refine j_table (off := 46) X 50 dX7_stateAfter_4 (by rw [hc4_1]; decide) (by rw [hc4_1]; decide) (by rw [hc4_1]; rfl) (by decide) ?_
      refine j_iload_n X 1 rfl dX7_stateAfter_50 rfl ?_
      refine j_bipush X (61 : Int32) dX7_stateAfter_51 (by rfl) ?_
      refine j_join (fun k5 => ∀ (x7 : Int32), J κ 2 rm_X7_stateAfter (jQf κ rm_X7_stateAfter rvI (fun S9 M9 => M9 = memG 0 358 (kD κ) (kB κ) S9 X9) z) (k5 x7) (memG 0 358 (kD κ) (kB κ) S X9) z 0 0 [] 73 [.int x7]) ?_ (fun k5 hk5 => ?_)
      · intro x7
        exact j_iret X dX7_stateAfter_73 rfl (fun _ h => h)
      · refine j_join (fun k6 => ∀ (_ : Unit), J κ 2 rm_X7_stateAfter (jQf κ rm_X7_stateAfter rvI (fun S9 M9 => M9 = memG 0 358 (kD κ) (kB κ) S9 X9) z) (k6 ()) (memG 0 358 (kD κ) (kB κ) S X9) z 0 0 [] 68 []) ?_ (fun k6 hk6 => ?_)
        · intro _
          refine j_iconst X (2 : Int32) dX7_stateAfter_68 (by rfl) ?_
          refine j_goto X 73 dX7_stateAfter_69 (by decide) ?_
          exact hk5 (2 : Int32)
        · refine j_icmp_eq X 68 dX7_stateAfter_53 (by decide) ?_ ?_
          · refine j_lv [] rfl ?_
            exact hk6 ()
          · refine j_iload_n X 1 rfl dX7_stateAfter_56 rfl ?_
            refine j_bipush X (60 : Int32) dX7_stateAfter_57 (by rfl) ?_
            refine j_icmp_eq X 68 dX7_stateAfter_59 (by decide) ?_ ?_
            · refine j_lv [] rfl ?_
              exact hk6 ()
            · refine j_iload_n X 1 rfl dX7_stateAfter_62 rfl ?_
              refine j_bipush X (62 : Int32) dX7_stateAfter_63 (by rfl) ?_
              refine j_icmp_ne X 72 dX7_stateAfter_65 (by decide) ?_ ?_
              · refine j_lv [] rfl ?_
                exact hk6 ()
              · refine j_iconst X (-1 : Int32) dX7_stateAfter_72 (by rfl) ?_
                refine j_lv [] rfl ?_
                exact hk5 (-1 : Int32)
    · refine j_ite (fun hc4_2 => ?_) (fun hc4_2 => ?_)
      · refine j_table (off := 70) X 74 dX7_stateAfter_4 (by rw [hc4_2]; decide) (by rw [hc4_2]; decide) (by rw [hc4_2]; rfl) (by decide) ?_
        refine j_iload_n X 1 rfl dX7_stateAfter_74 rfl ?_
        refine j_bipush X (48 : Int32) dX7_stateAfter_75 (by rfl) ?_
        refine j_join (fun k8 => ∀ (x10 : Int32), J κ 2 rm_X7_stateAfter (jQf κ rm_X7_stateAfter rvI (fun S9 M9 => M9 = memG 0 358 (kD κ) (kB κ) S9 X9) z) (k8 x10) (memG 0 358 (kD κ) (kB κ) S X9) z 0 0 [] 91 [.int x10]) ?_ (fun k8 hk8 => ?_)
        · intro x10
          exact j_iret X dX7_stateAfter_91 rfl (fun _ h => h)
        · refine j_join (fun k9 => ∀ (_ : Unit), J κ 2 rm_X7_stateAfter (jQf κ rm_X7_stateAfter rvI (fun S9 M9 => M9 = memG 0 358 (kD κ) (kB κ) S9 X9) z) (k9 ()) (memG 0 358 (kD κ) (kB κ) S X9) z 0 0 [] 90 []) ?_ (fun k9 hk9 => ?_)
          · intro _
            refine j_iconst X (-1 : Int32) dX7_stateAfter_90 (by rfl) ?_
            exact hk8 (-1 : Int32)
          · refine j_icmp_lt X 90 dX7_stateAfter_77 (by decide) ?_ ?_
            · refine j_lv [] rfl ?_
              exact hk9 ()
            · refine j_iload_n X 1 rfl dX7_stateAfter_80 rfl ?_
              refine j_bipush X (57 : Int32) dX7_stateAfter_81 (by rfl) ?_
              refine j_icmp_gt X 90 dX7_stateAfter_83 (by decide) ?_ ?_
              · refine j_lv [] rfl ?_
                exact hk9 ()
              · refine j_iconst X (3 : Int32) dX7_stateAfter_86 (by rfl) ?_
                refine j_goto X 91 dX7_stateAfter_87 (by decide) ?_
                refine j_lv [] rfl ?_
                exact hk8 (3 : Int32)
      · refine j_ite (fun hc4_3 => ?_) (fun hc4_3 => ?_)
        · refine j_table (off := 88) X 92 dX7_stateAfter_4 (by rw [hc4_3]; decide) (by rw [hc4_3]; decide) (by rw [hc4_3]; rfl) (by decide) ?_
          refine j_iload_n X 1 rfl dX7_stateAfter_92 rfl ?_
          refine j_bipush X (48 : Int32) dX7_stateAfter_93 (by rfl) ?_
          refine j_join (fun k11 => ∀ (S17 : jS) (x18 : Int32), J κ 2 rm_X7_stateAfter (jQf κ rm_X7_stateAfter rvI (fun S9 M9 => M9 = memG 0 358 (kD κ) (kB κ) S9 X9) z) (k11 S17 x18) (memG 0 358 (kD κ) (kB κ) S17 X9) z 0 0 [] 114 [.int x18]) ?_ (fun k11 hk11 => ?_)
          · intro S17 x18
            exact j_iret X dX7_stateAfter_114 rfl (fun _ h => h)
          · refine j_join (fun k12 => ∀ (_ : Unit), J κ 2 rm_X7_stateAfter (jQf κ rm_X7_stateAfter rvI (fun S9 M9 => M9 = memG 0 358 (kD κ) (kB κ) S9 X9) z) (k12 ()) (memG 0 358 (kD κ) (kB κ) S X9) z 0 0 [(0, .ref (kB κ + 32)), (1, .int p1)] 109 []) ?_ (fun k12 hk12 => ?_)
            · intro _
              refine j_aload_n X 0 rfl dX7_stateAfter_109 rfl ?_
              refine j_iload_n X 1 rfl dX7_stateAfter_110 rfl ?_
              refine j_call0V X 0 0 (c_X7_stateBehindFactor X.tr S X9 z p1) me_X7_stateBehindFactor ml_X7_33 iv_X7_stateBehindFactor cf_X7 dX7_stateAfter_111 (memG_at kf_32) (rest := []) rfl rfl (by decide) (by decide) (Nat.le_of_ble_eq_true rfl) (fun v13 S14 M16 hM15 => ?_)
              subst M16
              refine j_st (st1 := [.int v13]) rfl ?_
              refine j_lv [] rfl ?_
              exact hk11 S14 v13
            · refine j_icmp_lt X 109 dX7_stateAfter_95 (by decide) ?_ ?_
              · exact hk12 ()
              · refine j_iload_n X 1 rfl dX7_stateAfter_98 rfl ?_
                refine j_bipush X (57 : Int32) dX7_stateAfter_99 (by rfl) ?_
                refine j_icmp_gt X 109 dX7_stateAfter_101 (by decide) ?_ ?_
                · exact hk12 ()
                · refine j_bipush X (6 : Int32) dX7_stateAfter_104 (by rfl) ?_
                  refine j_goto X 114 dX7_stateAfter_106 (by decide) ?_
                  refine j_lv [] rfl ?_
                  exact hk11 S (6 : Int32)
        · refine j_ite (fun hc4_4 => ?_) (fun hc4_4 => ?_)
          · refine j_table (off := 111) X 115 dX7_stateAfter_4 (by rw [hc4_4]; decide) (by rw [hc4_4]; decide) (by rw [hc4_4]; rfl) (by decide) ?_
            refine j_iload_n X 1 rfl dX7_stateAfter_115 rfl ?_
            refine j_bipush X (48 : Int32) dX7_stateAfter_116 (by rfl) ?_
            refine j_join (fun k19 => ∀ (x21 : Int32), J κ 2 rm_X7_stateAfter (jQf κ rm_X7_stateAfter rvI (fun S9 M9 => M9 = memG 0 358 (kD κ) (kB κ) S9 X9) z) (k19 x21) (memG 0 358 (kD κ) (kB κ) S X9) z 0 0 [] 133 [.int x21]) ?_ (fun k19 hk19 => ?_)
            · intro x21
              exact j_iret X dX7_stateAfter_133 rfl (fun _ h => h)
            · refine j_join (fun k20 => ∀ (_ : Unit), J κ 2 rm_X7_stateAfter (jQf κ rm_X7_stateAfter rvI (fun S9 M9 => M9 = memG 0 358 (kD κ) (kB κ) S9 X9) z) (k20 ()) (memG 0 358 (kD κ) (kB κ) S X9) z 0 0 [] 132 []) ?_ (fun k20 hk20 => ?_)
              · intro _
                refine j_iconst X (-1 : Int32) dX7_stateAfter_132 (by rfl) ?_
                exact hk19 (-1 : Int32)
              · refine j_icmp_lt X 132 dX7_stateAfter_118 (by decide) ?_ ?_
                · refine j_lv [] rfl ?_
                  exact hk20 ()
                · refine j_iload_n X 1 rfl dX7_stateAfter_121 rfl ?_
                  refine j_bipush X (56 : Int32) dX7_stateAfter_122 (by rfl) ?_
                  refine j_icmp_ge X 132 dX7_stateAfter_124 (by decide) ?_ ?_
                  · refine j_lv [] rfl ?_
                    exact hk20 ()
                  · refine j_bipush X (6 : Int32) dX7_stateAfter_127 (by rfl) ?_
                    refine j_goto X 133 dX7_stateAfter_129 (by decide) ?_
                    refine j_lv [] rfl ?_
                    exact hk19 (6 : Int32)
          · refine j_ite (fun hc4_5 => ?_) (fun hc4_5 => ?_)
            · refine j_table (off := 130) X 134 dX7_stateAfter_4 (by rw [hc4_5]; decide) (by rw [hc4_5]; decide) (by rw [hc4_5]; rfl) (by decide) ?_
              refine j_iload_n X 1 rfl dX7_stateAfter_134 rfl ?_
              refine j_bipush X (48 : Int32) dX7_stateAfter_135 (by rfl) ?_
              refine j_join (fun k22 => ∀ (x24 : Int32), J κ 2 rm_X7_stateAfter (jQf κ rm_X7_stateAfter rvI (fun S9 M9 => M9 = memG 0 358 (kD κ) (kB κ) S9 X9) z) (k22 x24) (memG 0 358 (kD κ) (kB κ) S X9) z 0 0 [] 152 [.int x24]) ?_ (fun k22 hk22 => ?_)
              · intro x24
                exact j_iret X dX7_stateAfter_152 rfl (fun _ h => h)
              · refine j_join (fun k23 => ∀ (_ : Unit), J κ 2 rm_X7_stateAfter (jQf κ rm_X7_stateAfter rvI (fun S9 M9 => M9 = memG 0 358 (kD κ) (kB κ) S9 X9) z) (k23 ()) (memG 0 358 (kD κ) (kB κ) S X9) z 0 0 [] 151 []) ?_ (fun k23 hk23 => ?_)
                · intro _
                  refine j_iconst X (-1 : Int32) dX7_stateAfter_151 (by rfl) ?_
                  exact hk22 (-1 : Int32)
                · refine j_icmp_lt X 151 dX7_stateAfter_137 (by decide) ?_ ?_
                  · refine j_lv [] rfl ?_
                    exact hk23 ()
                  · refine j_iload_n X 1 rfl dX7_stateAfter_140 rfl ?_
                    refine j_bipush X (54 : Int32) dX7_stateAfter_141 (by rfl) ?_
                    refine j_icmp_ge X 151 dX7_stateAfter_143 (by decide) ?_ ?_
                    · refine j_lv [] rfl ?_
                      exact hk23 ()
                    · refine j_bipush X (6 : Int32) dX7_stateAfter_146 (by rfl) ?_
                      refine j_goto X 152 dX7_stateAfter_148 (by decide) ?_
                      refine j_lv [] rfl ?_
                      exact hk22 (6 : Int32)
            · refine j_tableD X 153 dX7_stateAfter_4 (by have q0 := j_ne hc4_0 (a := 0) rfl; have q1 := j_ne hc4_1 (a := 1) rfl; have q2 := j_ne hc4_2 (a := 2) rfl; have q3 := j_ne hc4_3 (a := 3) rfl; have q4 := j_ne hc4_4 (a := 4) rfl; have q5 := j_ne hc4_5 (a := 5) rfl; omega) (by decide) ?_
              refine j_aload_n X 0 rfl dX7_stateAfter_153 rfl ?_
              refine j_iload_n X 1 rfl dX7_stateAfter_154 rfl ?_
              refine j_call0V X 0 0 (c_X7_stateBehindFactor X.tr S X9 z p1) me_X7_stateBehindFactor ml_X7_33 iv_X7_stateBehindFactor cf_X7 dX7_stateAfter_155 (memG_at kf_32) (rest := []) rfl rfl (by decide) (by decide) (Nat.le_of_ble_eq_true rfl) (fun v25 S26 M28 hM27 => ?_)
              subst M28
              refine j_st (st1 := [.int v25]) rfl ?_
              exact j_iret X dX7_stateAfter_158 rfl (fun _ h => h)
def f_X7_findFault (S : jS) (b1 : Nat) : Option (jR jS) := letE (jset S 32 0 (0 : Int32)) fun S1 => letE (jset S1 32 1 (0 : Int32)) fun S2 => loopK (fun (rec3 : jS → Int32 → Option (jR jS)) (S4 : jS) (x5 : Int32) => (if (S4 b1 1) ≤ x5 then joinK (fun (x9 : Int32) => joinK (fun (x11 : Int32) => some (0, x11, S4)) (fun k10 => (if x9 = (0 : Int32) then k10 (S4 b1 1) else k10 (-1 : Int32)))) (fun k6 => joinK (fun (_ : Unit) => k6 (0 : Int32)) (fun k7 => (if (S4 32 1) = (0 : Int32) then joinK (fun (_ : Unit) => k6 (1 : Int32)) (fun k8 => (if (S4 32 0) = (6 : Int32) then k8 () else (if (S4 32 0) = (3 : Int32) then k8 () else k7 ()))) else k7 ()))) else jbin0 (f_X8_signAt S4 b1 x5) (fun v12 _ => jbin0 (f_X7_stateAfter S4 v12) (fun v13 S14 => letE (jset S14 32 0 v13) fun S15 => (if (S15 32 0) = (-1 : Int32) then some (0, x5, S15) else letE (x5 + (1 : Int32)) fun x16 => rec3 S15 x16))))) (fun _ _ => none) 1000 S2 (0 : Int32)
abbrev rm_X7_findFault : Room := { frames := 2, cells := 0, slots := 0, locals := 42 }
set_option maxHeartbeats 4000000 in
set_option maxRecDepth 100000 in
theorem c_X7_findFault {l : Launch} {D : va_G} {B t0 : Nat} (hl9 : l.stackTraces = false) (S : jS) (X9 : jMem) (z : Nat → Prop) (b1 : Nat) (hb1 : isText b1) : jCf l D B t0 yX7_findFault cX7_findFault 3 (some .int) rm_X7_findFault [.ref (B + 32), .ref (B + b1)] (memG 0 358 D B S X9) z (f_X7_findFault S b1) rvI (fun S9 M9 => M9 = memG 0 358 D B S9 X9) z := by
  refine jC_of hl9 (me_X7_findFault).1 [(0, .ref (B + 32)), (1, .ref (B + b1))] ⟨by decide +kernel, Nat.le_of_ble_eq_true rfl⟩ rfl (fun κ hl hD hB hT X htab hin => ?_)
  subst hl hD hB hT
  have X : jX κ RX7 cX7_findFault 3 (some .int) := X
  unfold f_X7_findFault
  refine j_aload_n X 0 rfl dX7_findFault_0 rfl ?_
  refine j_iconst X (0 : Int32) dX7_findFault_1 (by rfl) ?_
  refine g_putf X 0 kf_32 cf_X7 (by decide) fl_X7_11 dX7_findFault_2 rfl rfl rfl rfl (Nat.le_of_ble_eq_true rfl) rfl (fun S1 => ?_)
  refine j_aload_n X 0 rfl dX7_findFault_5 rfl ?_
  refine j_iconst X (0 : Int32) dX7_findFault_6 (by rfl) ?_
  refine g_putf X 1 kf_32 cf_X7 (by decide) fl_X7_15 dX7_findFault_7 rfl rfl rfl rfl (Nat.le_of_ble_eq_true rfl) rfl (fun S2 => ?_)
  refine j_iconst X (0 : Int32) dX7_findFault_10 (by rfl) ?_
  refine j_istore_n X [(2, .int (0 : Int32)), (0, .ref (kB κ + 32)), (1, .ref (kB κ + b1))] dX7_findFault_11 rfl (by decide) rfl ?_
  refine j_lv [1, 2, 0] rfl ?_
  refine j_loop (fun (k : jS → Int32 → Option (jR jS)) => ∀ (S4 : jS) (x5 : Int32), J κ 3 rm_X7_findFault (jQf κ rm_X7_findFault rvI (fun S9 M9 => M9 = memG 0 358 (kD κ) (kB κ) S9 X9) z) (k S4 x5) (memG 0 358 (kD κ) (kB κ) S4 X9) z 0 0 [(0, .ref (kB κ + 32)), (1, .ref (kB κ + b1)), (2, .int x5)] 12 []) (fun _ _ => j_none) (fun rec3 hrec3 => ?_) 1000 _ _
  intro S4 x5
  refine j_iload_n X 2 rfl dX7_findFault_12 rfl ?_
  refine j_aload_n X 1 rfl dX7_findFault_13 rfl ?_
  refine g_getN X 1 (kText hb1).1 cf_X8 (by decide) fn_X7_18 dX7_findFault_14 rfl rfl ?_
  refine j_icmp_ge X 49 dX7_findFault_17 (by decide) ?_ ?_
  · refine j_aload_n X 0 rfl dX7_findFault_49 rfl ?_
    refine g_getf X 1 kf_32 cf_X7 (by decide) fl_X7_15 dX7_findFault_50 rfl rfl ?_
    refine j_join (fun k6 => ∀ (x9 : Int32), J κ 3 rm_X7_findFault (jQf κ rm_X7_findFault rvI (fun S9 M9 => M9 = memG 0 358 (kD κ) (kB κ) S9 X9) z) (k6 x9) (memG 0 358 (kD κ) (kB κ) S4 X9) z 0 0 [(1, .ref (kB κ + b1))] 78 [.int x9]) ?_ (fun k6 hk6 => ?_)
    · intro x9
      refine j_istore_n X [(2, .int x9), (1, .ref (kB κ + b1))] dX7_findFault_78 rfl (by decide) rfl ?_
      refine j_iload_n X 0 rfl dX7_findFault_79 rfl ?_
      refine j_join (fun k10 => ∀ (x11 : Int32), J κ 3 rm_X7_findFault (jQf κ rm_X7_findFault rvI (fun S9 M9 => M9 = memG 0 358 (kD κ) (kB κ) S9 X9) z) (k10 x11) (memG 0 358 (kD κ) (kB κ) S4 X9) z 0 0 [] 91 [.int x11]) ?_ (fun k10 hk10 => ?_)
      · intro x11
        exact j_iret X dX7_findFault_91 rfl (fun _ h => h)
      · refine j_if_eq X 87 dX7_findFault_80 (by decide) ?_ ?_
        · refine j_aload_n X 1 rfl dX7_findFault_87 rfl ?_
          refine g_getN X 1 (kText hb1).1 cf_X8 (by decide) fn_X7_18 dX7_findFault_88 rfl rfl ?_
          refine j_lv [] rfl ?_
          exact hk10 (S4 b1 1)
        · refine j_iconst X (-1 : Int32) dX7_findFault_83 (by rfl) ?_
          refine j_goto X 91 dX7_findFault_84 (by decide) ?_
          refine j_lv [] rfl ?_
          exact hk10 (-1 : Int32)
    · refine j_join (fun k7 => ∀ (_ : Unit), J κ 3 rm_X7_findFault (jQf κ rm_X7_findFault rvI (fun S9 M9 => M9 = memG 0 358 (kD κ) (kB κ) S9 X9) z) (k7 ()) (memG 0 358 (kD κ) (kB κ) S4 X9) z 0 0 [(1, .ref (kB κ + b1))] 77 []) ?_ (fun k7 hk7 => ?_)
      · intro _
        refine j_iconst X (0 : Int32) dX7_findFault_77 (by rfl) ?_
        exact hk6 (0 : Int32)
      · refine j_if_ne X 77 dX7_findFault_53 (by decide) ?_ ?_
        · refine j_aload_n X 0 rfl dX7_findFault_56 rfl ?_
          refine g_getf X 0 kf_32 cf_X7 (by decide) fl_X7_11 dX7_findFault_57 rfl rfl ?_
          refine j_bipush X (6 : Int32) dX7_findFault_60 (by rfl) ?_
          refine j_join (fun k8 => ∀ (_ : Unit), J κ 3 rm_X7_findFault (jQf κ rm_X7_findFault rvI (fun S9 M9 => M9 = memG 0 358 (kD κ) (kB κ) S9 X9) z) (k8 ()) (memG 0 358 (kD κ) (kB κ) S4 X9) z 0 0 [(1, .ref (kB κ + b1))] 73 []) ?_ (fun k8 hk8 => ?_)
          · intro _
            refine j_iconst X (1 : Int32) dX7_findFault_73 (by rfl) ?_
            refine j_goto X 78 dX7_findFault_74 (by decide) ?_
            exact hk6 (1 : Int32)
          · refine j_icmp_eq X 73 dX7_findFault_62 (by decide) ?_ ?_
            · refine j_lv [1] rfl ?_
              exact hk8 ()
            · refine j_aload_n X 0 rfl dX7_findFault_65 rfl ?_
              refine g_getf X 0 kf_32 cf_X7 (by decide) fl_X7_11 dX7_findFault_66 rfl rfl ?_
              refine j_iconst X (3 : Int32) dX7_findFault_69 (by rfl) ?_
              refine j_icmp_ne X 77 dX7_findFault_70 (by decide) ?_ ?_
              · refine j_lv [1] rfl ?_
                exact hk8 ()
              · refine j_lv [1] rfl ?_
                exact hk7 ()
        · refine j_lv [1] rfl ?_
          exact hk7 ()
  · refine j_aload_n X 0 rfl dX7_findFault_20 rfl ?_
    refine j_aload_n X 0 rfl dX7_findFault_21 rfl ?_
    refine j_aload_n X 1 rfl dX7_findFault_22 rfl ?_
    refine j_iload_n X 2 rfl dX7_findFault_23 rfl ?_
    refine j_call0V X 0 0 (c_X8_signAt X.tr S4 X9 z b1 hb1 x5) me_X8_signAt ml_X7_23 iv_X8_signAt cf_X8 dX7_findFault_24 (memG_at (kText hb1).1) (rest := [.ref (kB κ + 32), .ref (kB κ + 32)]) rfl rfl (by decide) (by decide) (Nat.le_of_ble_eq_true rfl) (fun v12 u21 M20 hM19 => ?_)
    subst M20
    refine j_st (st1 := [.int v12, .ref (kB κ + 32), .ref (kB κ + 32)]) rfl ?_
    refine j_call0V X 0 0 (c_X7_stateAfter X.tr S4 X9 z v12) me_X7_stateAfter ml_X7_27 iv_X7_stateAfter cf_X7 dX7_findFault_27 (memG_at kf_32) (rest := [.ref (kB κ + 32)]) rfl rfl (by decide) (by decide) (Nat.le_of_ble_eq_true rfl) (fun v13 S14 M18 hM17 => ?_)
    subst M18
    refine j_st (st1 := [.int v13, .ref (kB κ + 32)]) rfl ?_
    refine g_putf X 0 kf_32 cf_X7 (by decide) fl_X7_11 dX7_findFault_30 rfl rfl rfl rfl (Nat.le_of_ble_eq_true rfl) rfl (fun S15 => ?_)
    refine j_aload_n X 0 rfl dX7_findFault_33 rfl ?_
    refine g_getf X 0 kf_32 cf_X7 (by decide) fl_X7_11 dX7_findFault_34 rfl rfl ?_
    refine j_iconst X (-1 : Int32) dX7_findFault_37 (by rfl) ?_
    refine j_icmp_ne X 43 dX7_findFault_38 (by decide) ?_ ?_
    · refine j_iload_n X 2 rfl dX7_findFault_41 rfl ?_
      exact j_iret X dX7_findFault_42 rfl (fun _ h => h)
    · refine j_iincL X 2 (fun x16 => [(2, .int x16), (0, .ref (kB κ + 32)), (1, .ref (kB κ + b1))]) dX7_findFault_43 rfl (by rfl) (by decide) (fun _ => rfl) (fun x16 => ?_)
      refine j_goto X 12 dX7_findFault_46 (by decide) ?_
      refine j_lv [1, 2, 0] rfl ?_
      exact hrec3 S15 x16
def f_X0_faultOf (S : jS) (p1 : Int32) : Option (jR jS) := chk (inb p1 6) (jbin0 (f_X7_findFault S (37 + 4 * p1.toNatClampNeg)) (fun v2 S3 => some (0, v2, S3)))
abbrev rm_X0_faultOf : Room := { frames := 3, cells := 0, slots := 0, locals := 64 }
set_option maxHeartbeats 4000000 in
set_option maxRecDepth 100000 in
theorem c_X0_faultOf {l : Launch} {D : va_G} {B t0 : Nat} (hl9 : l.stackTraces = false) (S : jS) (X9 : jMem) (z : Nat → Prop) (p1 : Int32) : jCf l D B t0 yX0_faultOf cX0_faultOf 2 (some .int) rm_X0_faultOf [.ref (B + 24), .int p1] (memG 0 358 D B S X9) z (f_X0_faultOf S p1) rvI (fun S9 M9 => M9 = memG 0 358 D B S9 X9) z := by
  refine jC_of hl9 (me_X0_faultOf).1 [(0, .ref (B + 24)), (1, .int p1)] ⟨by decide +kernel, Nat.le_of_ble_eq_true rfl⟩ rfl (fun κ hl hD hB hT X htab hin => ?_)
  subst hl hD hB hT
  have X : jX κ RX0 cX0_faultOf 2 (some .int) := X
  unfold f_X0_faultOf
  refine j_aload_n X 0 rfl dX0_faultOf_0 rfl ?_
  refine g_getf X 5 kf_24 cf_X0 (by decide) fl_X0_39 dX0_faultOf_1 rfl rfl ?_
  refine j_aload_n X 0 rfl dX0_faultOf_4 rfl ?_
  refine g_getf X 0 kf_24 cf_X0 (by decide) fl_X0_11 dX0_faultOf_5 rfl rfl ?_
  refine j_iload_n X 1 rfl dX0_faultOf_8 rfl ?_
  refine g_aald X 5 6 kf_25 rfl rfl dX0_faultOf_9 rfl rfl (fun h1 => ?_)
  refine j_call0V X 0 0 (c_X7_findFault X.tr S X9 z (37 + 4 * p1.toNatClampNeg) (isText_d h1)) me_X7_findFault ml_X0_51 iv_X7_findFault cf_X7 dX0_faultOf_10 (memG_at kf_32) (rest := []) rfl rfl (by decide) (by decide) (Nat.le_of_ble_eq_true rfl) (fun v2 S3 M5 hM4 => ?_)
  subst M5
  refine j_st (st1 := [.int v2]) rfl ?_
  exact j_iret X dX0_faultOf_13 rfl (fun _ h => h)
def f_X8_digitAt (S : jS) (b0 : Nat) (p1 : Int32) : Option (jR Unit) := jbin0 (f_X8_signAt S b0 p1) (fun v1 _ => letE ((v1 - (48 : Int32))) fun x2 => joinK (fun (x5 : Int32) => some (0, x5, ())) (fun k3 => joinK (fun (_ : Unit) => k3 (-1 : Int32)) (fun k4 => (if x2 < (0 : Int32) then k4 () else (if (9 : Int32) < x2 then k4 () else k3 x2)))))
abbrev rm_X8_digitAt : Room := { frames := 1, cells := 0, slots := 0, locals := 21 }
set_option maxHeartbeats 4000000 in
set_option maxRecDepth 100000 in
theorem c_X8_digitAt {l : Launch} {D : va_G} {B t0 : Nat} (hl9 : l.stackTraces = false) (S : jS) (X9 : jMem) (z : Nat → Prop) (b0 : Nat) (hb0 : isText b0) (p1 : Int32) : jCf l D B t0 yX8_digitAt cX8_digitAt 3 (some .int) rm_X8_digitAt [.ref (B + b0), .int p1] (memG 0 358 D B S X9) z (f_X8_digitAt S b0 p1) rvI (fun (S9 : Unit) M9 => M9 = memG 0 358 D B S X9) z := by
  refine jC_of hl9 (me_X8_digitAt).1 [(0, .ref (B + b0)), (1, .int p1)] ⟨by decide +kernel, Nat.le_of_ble_eq_true rfl⟩ rfl (fun κ hl hD hB hT X htab hin => ?_)
  subst hl hD hB hT
  have X : jX κ RX8 cX8_digitAt 3 (some .int) := X
  unfold f_X8_digitAt
  refine j_aload_n X 0 rfl dX8_digitAt_0 rfl ?_
  refine j_iload_n X 1 rfl dX8_digitAt_1 rfl ?_
  refine j_call0V X 0 0 (c_X8_signAt X.tr S X9 z b0 hb0 p1) me_X8_signAt ml_X8_19 iv_X8_signAt cf_X8 dX8_digitAt_2 (memG_at (kText hb0).1) (rest := []) rfl rfl (by decide) (by decide) (Nat.le_of_ble_eq_true rfl) (fun v1 u8 M7 hM6 => ?_)
  subst M7
  refine j_st (st1 := [.int v1]) rfl ?_
  refine j_bipush X (48 : Int32) dX8_digitAt_5 (by rfl) ?_
  refine j_isub X dX8_digitAt_7 ?_
  refine j_letE (fun x2 => ?_)
  refine j_istore_n X [(2, .int x2), (0, .ref (kB κ + b0)), (1, .int p1)] dX8_digitAt_8 rfl (by decide) rfl ?_
  refine j_iload_n X 0 rfl dX8_digitAt_9 rfl ?_
  refine j_join (fun k3 => ∀ (x5 : Int32), J κ 3 rm_X8_digitAt (jQf κ rm_X8_digitAt rvI (fun (S9 : Unit) M9 => M9 = memG 0 358 (kD κ) (kB κ) S X9) z) (k3 x5) (memG 0 358 (kD κ) (kB κ) S X9) z 0 0 [] 24 [.int x5]) ?_ (fun k3 hk3 => ?_)
  · intro x5
    exact j_iret X dX8_digitAt_24 rfl (fun _ h => h)
  · refine j_join (fun k4 => ∀ (_ : Unit), J κ 3 rm_X8_digitAt (jQf κ rm_X8_digitAt rvI (fun (S9 : Unit) M9 => M9 = memG 0 358 (kD κ) (kB κ) S X9) z) (k4 ()) (memG 0 358 (kD κ) (kB κ) S X9) z 0 0 [] 23 []) ?_ (fun k4 hk4 => ?_)
    · intro _
      refine j_iconst X (-1 : Int32) dX8_digitAt_23 (by rfl) ?_
      exact hk3 (-1 : Int32)
    · refine j_if_lt X 23 dX8_digitAt_10 (by decide) ?_ ?_
      · refine j_lv [] rfl ?_
        exact hk4 ()
      · refine j_iload_n X 0 rfl dX8_digitAt_13 rfl ?_
        refine j_bipush X (9 : Int32) dX8_digitAt_14 (by rfl) ?_
        refine j_icmp_gt X 23 dX8_digitAt_16 (by decide) ?_ ?_
        · refine j_lv [] rfl ?_
          exact hk4 ()
        · refine j_iload_n X 0 rfl dX8_digitAt_19 rfl ?_
          refine j_goto X 24 dX8_digitAt_20 (by decide) ?_
          refine j_lv [] rfl ?_
          exact hk3 x2
def f_X10_withBit (p0 : Int32) (p1 : Int32) (p2 : Int32) : Option (jR Unit) := joinK (fun (x2 : Int32) => some (0, x2, ())) (fun k1 => (if p2 = (0 : Int32) then k1 ((p0 &&& (((1 : Int32) <<< (p1 &&& 31)) ^^^ (-1 : Int32)))) else k1 ((p0 ||| ((1 : Int32) <<< (p1 &&& 31))))))
abbrev rm_X10_withBit : Room := { frames := 0, cells := 0, slots := 0, locals := 0 }
set_option maxHeartbeats 4000000 in
set_option maxRecDepth 100000 in
theorem c_X10_withBit {l : Launch} {D : va_G} {B t0 : Nat} (hl9 : l.stackTraces = false) (M : jMem) (z : Nat → Prop) (p0 : Int32) (p1 : Int32) (p2 : Int32) : jCf l D B t0 yX10_withBit cX10_withBit 3 (some .int) rm_X10_withBit [.int p0, .int p1, .int p2] M z (f_X10_withBit p0 p1 p2) rvI (fun (S9 : Unit) M9 => M9 = M) z := by
  refine jC_of hl9 (me_X10_withBit).1 [(0, .int p0), (1, .int p1), (2, .int p2)] ⟨by decide +kernel, Nat.le_of_ble_eq_true rfl⟩ rfl (fun κ hl hD hB hT X htab hin => ?_)
  subst hl hD hB hT
  have X : jX κ RX10 cX10_withBit 3 (some .int) := X
  unfold f_X10_withBit
  refine j_iload_n X 2 rfl dX10_withBit_0 rfl ?_
  refine j_join (fun k1 => ∀ (x2 : Int32), J κ 3 rm_X10_withBit (jQf κ rm_X10_withBit rvI (fun (S9 : Unit) M9 => M9 = M) z) (k1 x2) M z 0 0 [] 19 [.int x2]) ?_ (fun k1 hk1 => ?_)
  · intro x2
    exact j_iret X dX10_withBit_19 rfl (fun _ h => h)
  · refine j_if_eq X 12 dX10_withBit_1 (by decide) ?_ ?_
    · refine j_iload_n X 0 rfl dX10_withBit_12 rfl ?_
      refine j_iconst X (1 : Int32) dX10_withBit_13 (by rfl) ?_
      refine j_iload_n X 1 rfl dX10_withBit_14 rfl ?_
      refine j_ishl X dX10_withBit_15 ?_
      refine j_iconst X (-1 : Int32) dX10_withBit_16 (by rfl) ?_
      refine j_ixor X dX10_withBit_17 ?_
      refine j_iand X dX10_withBit_18 ?_
      refine j_lv [] rfl ?_
      exact hk1 ((p0 &&& (((1 : Int32) <<< (p1 &&& 31)) ^^^ (-1 : Int32))))
    · refine j_iload_n X 0 rfl dX10_withBit_4 rfl ?_
      refine j_iconst X (1 : Int32) dX10_withBit_5 (by rfl) ?_
      refine j_iload_n X 1 rfl dX10_withBit_6 rfl ?_
      refine j_ishl X dX10_withBit_7 ?_
      refine j_ior X dX10_withBit_8 ?_
      refine j_goto X 19 dX10_withBit_9 (by decide) ?_
      refine j_lv [] rfl ?_
      exact hk1 ((p0 ||| ((1 : Int32) <<< (p1 &&& 31))))
def f_X8_audiencesReferredTo (S : jS) (b0 : Nat) : Option (jR Unit) := loopK (fun (rec1 : Int32 → Int32 → Option (jR Unit)) (x2 : Int32) (x3 : Int32) => (if (S b0 1) ≤ x3 then some (0, x2, ()) else jbin0 (f_X8_digitAt S b0 ((x3 + (1 : Int32)))) (fun v4 _ => chk (inb x3 60) (joinK (fun (x10 : Int32) => letE (x3 + (1 : Int32)) fun x11 => rec1 x10 x11) (fun k5 => (if (S (b0 + 1) x3.toNatClampNeg) = (64 : Int32) then (if v4 = (-1 : Int32) then k5 x2 else jbin0 (f_X10_withBit x2 v4 (1 : Int32)) (fun v6 _ => k5 v6)) else k5 x2)))))) (fun _ _ => none) 1000 (0 : Int32) (0 : Int32)
abbrev rm_X8_audiencesReferredTo : Room := { frames := 2, cells := 0, slots := 0, locals := 43 }
set_option maxHeartbeats 4000000 in
set_option maxRecDepth 100000 in
theorem c_X8_audiencesReferredTo {l : Launch} {D : va_G} {B t0 : Nat} (hl9 : l.stackTraces = false) (S : jS) (X9 : jMem) (z : Nat → Prop) (b0 : Nat) (hb0 : isText b0) : jCf l D B t0 yX8_audiencesReferredTo cX8_audiencesReferredTo 4 (some .int) rm_X8_audiencesReferredTo [.ref (B + b0)] (memG 0 358 D B S X9) z (f_X8_audiencesReferredTo S b0) rvI (fun (S9 : Unit) M9 => M9 = memG 0 358 D B S X9) z := by
  refine jC_of hl9 (me_X8_audiencesReferredTo).1 [(0, .ref (B + b0))] ⟨by decide +kernel, Nat.le_of_ble_eq_true rfl⟩ rfl (fun κ hl hD hB hT X htab hin => ?_)
  subst hl hD hB hT
  have X : jX κ RX8 cX8_audiencesReferredTo 4 (some .int) := X
  unfold f_X8_audiencesReferredTo
  refine j_iconst X (0 : Int32) dX8_audiencesReferredTo_0 (by rfl) ?_
  refine j_istore_n X [(1, .int (0 : Int32)), (0, .ref (kB κ + b0))] dX8_audiencesReferredTo_1 rfl (by decide) rfl ?_
  refine j_iconst X (0 : Int32) dX8_audiencesReferredTo_2 (by rfl) ?_
  refine j_istore_n X [(2, .int (0 : Int32)), (1, .int (0 : Int32)), (0, .ref (kB κ + b0))] dX8_audiencesReferredTo_3 rfl (by decide) rfl ?_
  refine j_lv [2, 1, 0] rfl ?_
  refine j_loop (fun (k : Int32 → Int32 → Option (jR Unit)) => ∀ (x2 : Int32) (x3 : Int32), J κ 4 rm_X8_audiencesReferredTo (jQf κ rm_X8_audiencesReferredTo rvI (fun (S9 : Unit) M9 => M9 = memG 0 358 (kD κ) (kB κ) S X9) z) (k x2 x3) (memG 0 358 (kD κ) (kB κ) S X9) z 0 0 [(0, .ref (kB κ + b0)), (1, .int x2), (2, .int x3)] 4 []) (fun _ _ => j_none) (fun rec1 hrec1 => ?_) 1000 _ _
  intro x2 x3
  refine j_iload_n X 2 rfl dX8_audiencesReferredTo_4 rfl ?_
  refine j_aload_n X 0 rfl dX8_audiencesReferredTo_5 rfl ?_
  refine g_getf X 1 (kText hb0).1 cf_X8 (by decide) fl_X8_15 dX8_audiencesReferredTo_6 rfl rfl ?_
  refine j_icmp_ge X 49 dX8_audiencesReferredTo_9 (by decide) ?_ ?_
  · refine j_iload_n X 1 rfl dX8_audiencesReferredTo_49 rfl ?_
    exact j_iret X dX8_audiencesReferredTo_50 rfl (fun _ h => h)
  · refine j_aload_n X 0 rfl dX8_audiencesReferredTo_12 rfl ?_
    refine j_iload_n X 2 rfl dX8_audiencesReferredTo_13 rfl ?_
    refine j_iconst X (1 : Int32) dX8_audiencesReferredTo_14 (by rfl) ?_
    refine j_iadd X dX8_audiencesReferredTo_15 ?_
    refine j_call0V X 0 0 (c_X8_digitAt X.tr S X9 z b0 hb0 ((x3 + (1 : Int32)))) me_X8_digitAt ml_X8_23 iv_X8_digitAt cf_X8 dX8_audiencesReferredTo_16 (memG_at (kText hb0).1) (rest := []) rfl rfl (by decide) (by decide) (Nat.le_of_ble_eq_true rfl) (fun v4 u15 M14 hM13 => ?_)
    subst M14
    refine j_st (st1 := [.int v4]) rfl ?_
    refine j_istore_n X [(3, .int v4), (0, .ref (kB κ + b0)), (1, .int x2), (2, .int x3)] dX8_audiencesReferredTo_19 rfl (by decide) rfl ?_
    refine j_aload_n X 1 rfl dX8_audiencesReferredTo_20 rfl ?_
    refine g_getf X 0 (kText hb0).1 cf_X8 (by decide) fl_X8_9 dX8_audiencesReferredTo_21 rfl rfl ?_
    refine j_iload_n X 3 rfl dX8_audiencesReferredTo_24 rfl ?_
    refine g_cald X 60 (kText hb0).2 (by decide) dX8_audiencesReferredTo_25 (fun h12 => ?_)
    refine j_bipush X (64 : Int32) dX8_audiencesReferredTo_26 (by rfl) ?_
    refine j_join (fun k5 => ∀ (x10 : Int32), J κ 4 rm_X8_audiencesReferredTo (jQf κ rm_X8_audiencesReferredTo rvI (fun (S9 : Unit) M9 => M9 = memG 0 358 (kD κ) (kB κ) S X9) z) (k5 x10) (memG 0 358 (kD κ) (kB κ) S X9) z 0 0 [(0, .ref (kB κ + b0)), (1, .int x10), (2, .int x3)] 43 []) ?_ (fun k5 hk5 => ?_)
    · intro x10
      refine j_iincL X 2 (fun x11 => [(2, .int x11), (0, .ref (kB κ + b0)), (1, .int x10)]) dX8_audiencesReferredTo_43 rfl (by rfl) (by decide) (fun _ => rfl) (fun x11 => ?_)
      refine j_goto X 4 dX8_audiencesReferredTo_46 (by decide) ?_
      refine j_lv [1, 2, 0] rfl ?_
      exact hrec1 x10 x11
    · refine j_icmp_ne X 43 dX8_audiencesReferredTo_28 (by decide) ?_ ?_
      · refine j_iload_n X 0 rfl dX8_audiencesReferredTo_31 rfl ?_
        refine j_iconst X (-1 : Int32) dX8_audiencesReferredTo_32 (by rfl) ?_
        refine j_icmp_eq X 43 dX8_audiencesReferredTo_33 (by decide) ?_ ?_
        · refine j_lv [1, 2, 3] rfl ?_
          exact hk5 x2
        · refine j_iload_n X 2 rfl dX8_audiencesReferredTo_36 rfl ?_
          refine j_iload_n X 0 rfl dX8_audiencesReferredTo_37 rfl ?_
          refine j_iconst X (1 : Int32) dX8_audiencesReferredTo_38 (by rfl) ?_
          refine j_call0SN X 0 0 (c_X10_withBit X.tr (memG 0 358 (kD κ) (kB κ) S X9) z x2 v4 (1 : Int32)) me_X10_withBit mn_X8_32 st_X10_withBit dX8_audiencesReferredTo_39 (rest := []) rfl rfl (by decide) (by decide) (Nat.le_of_ble_eq_true rfl) (fun v6 u9 M8 hM7 => ?_)
          subst M8
          refine j_st (st1 := [.int v6]) rfl ?_
          refine j_istore_n X [(1, .int v6), (3, .int v4), (0, .ref (kB κ + b0)), (2, .int x3)] dX8_audiencesReferredTo_42 rfl (by decide) rfl ?_
          refine j_lv [2, 0, 3] rfl ?_
          exact hk5 v6
      · refine j_lv [1, 2, 3] rfl ?_
        exact hk5 x2
def f_X10_hasBit (p0 : Int32) (p1 : Int32) : Option (jR Unit) := joinK (fun (x2 : Int32) => chk (isb x2) (some (0, x2, ()))) (fun k1 => (if ((p0 >>> (p1 &&& 31)) &&& (1 : Int32)) = (0 : Int32) then k1 (0 : Int32) else k1 (1 : Int32)))
abbrev rm_X10_hasBit : Room := { frames := 0, cells := 0, slots := 0, locals := 0 }
set_option maxHeartbeats 4000000 in
set_option maxRecDepth 100000 in
theorem c_X10_hasBit {l : Launch} {D : va_G} {B t0 : Nat} (hl9 : l.stackTraces = false) (M : jMem) (z : Nat → Prop) (p0 : Int32) (p1 : Int32) : jCf l D B t0 yX10_hasBit cX10_hasBit 2 (some .boolean) rm_X10_hasBit [.int p0, .int p1] M z (f_X10_hasBit p0 p1) rvI (fun (S9 : Unit) M9 => M9 = M) z := by
  refine jC_of hl9 (me_X10_hasBit).1 [(0, .int p0), (1, .int p1)] ⟨by decide +kernel, Nat.le_of_ble_eq_true rfl⟩ rfl (fun κ hl hD hB hT X htab hin => ?_)
  subst hl hD hB hT
  have X : jX κ RX10 cX10_hasBit 2 (some .boolean) := X
  unfold f_X10_hasBit
  refine j_iload_n X 0 rfl dX10_hasBit_0 rfl ?_
  refine j_iload_n X 1 rfl dX10_hasBit_1 rfl ?_
  refine j_ishr X dX10_hasBit_2 ?_
  refine j_iconst X (1 : Int32) dX10_hasBit_3 (by rfl) ?_
  refine j_iand X dX10_hasBit_4 ?_
  refine j_join (fun k1 => ∀ (x2 : Int32), J κ 2 rm_X10_hasBit (jQf κ rm_X10_hasBit rvI (fun (S9 : Unit) M9 => M9 = M) z) (k1 x2) M z 0 0 [] 13 [.int x2]) ?_ (fun k1 hk1 => ?_)
  · intro x2
    exact j_zret X dX10_hasBit_13 rfl (fun _ h => h)
  · refine j_if_eq X 12 dX10_hasBit_5 (by decide) ?_ ?_
    · refine j_iconst X (0 : Int32) dX10_hasBit_12 (by rfl) ?_
      refine j_lv [] rfl ?_
      exact hk1 (0 : Int32)
    · refine j_iconst X (1 : Int32) dX10_hasBit_8 (by rfl) ?_
      refine j_goto X 13 dX10_hasBit_9 (by decide) ?_
      refine j_lv [] rfl ?_
      exact hk1 (1 : Int32)
def f_X4_wouldLoop (S : jS) (b0 n0 : Nat) (p1 : Int32) (p2 : Int32) : Option (jR Unit) := loopK (fun (rec1 : Int32 → Int32 → Option (jR Unit)) (x2 : Int32) (x3 : Int32) => (if (Int32.ofNat n0) ≤ x3 then jbin0 (f_X10_hasBit x2 p1) (fun v4 _ => chk (isb v4) (some (0, v4, ()))) else loopK (fun (rec8 : Int32 → Int32 → Option (jR Unit)) (x9 : Int32) (x10 : Int32) => (if (Int32.ofNat n0) ≤ x10 then letE (x3 + (1 : Int32)) fun x11 => rec1 x9 x11 else jbin0 (f_X10_hasBit x9 x10) (fun v12 _ => joinK (fun (x15 : Int32) => letE (x9 ||| x15) fun x16 => letE (x10 + (1 : Int32)) fun x17 => rec8 x16 x17) (fun k13 => (if v12 = (0 : Int32) then k13 (0 : Int32) else chk (inb x10 n0) (k13 ((S (b0 + 1) x10.toNatClampNeg)))))))) (fun _ _ => none) 1000 x2 (0 : Int32))) (fun _ _ => none) 1000 p2 (0 : Int32)
abbrev rm_X4_wouldLoop : Room := { frames := 1, cells := 0, slots := 0, locals := 21 }
set_option maxHeartbeats 4000000 in
set_option maxRecDepth 100000 in
theorem c_X4_wouldLoop {l : Launch} {D : va_G} {B t0 : Nat} (hl9 : l.stackTraces = false) (S : jS) (X9 : jMem) (z : Nat → Prop) (b0 n0 : Nat) (hb0 : isGraph b0 n0) (p1 : Int32) (p2 : Int32) : jCf l D B t0 yX4_wouldLoop cX4_wouldLoop 6 (some .boolean) rm_X4_wouldLoop [.ref (B + b0), .int p1, .int p2] (memG 0 358 D B S X9) z (f_X4_wouldLoop S b0 n0 p1 p2) rvI (fun (S9 : Unit) M9 => M9 = memG 0 358 D B S X9) z := by
  refine jC_of hl9 (me_X4_wouldLoop).1 [(0, .ref (B + b0)), (1, .int p1), (2, .int p2)] ⟨by decide +kernel, Nat.le_of_ble_eq_true rfl⟩ rfl (fun κ hl hD hB hT X htab hin => ?_)
  subst hl hD hB hT
  have X : jX κ RX4 cX4_wouldLoop 6 (some .boolean) := X
  unfold f_X4_wouldLoop
  refine j_iload_n X 2 rfl dX4_wouldLoop_0 rfl ?_
  refine j_istore_n X [(3, .int p2), (0, .ref (kB κ + b0)), (1, .int p1), (2, .int p2)] dX4_wouldLoop_1 rfl (by decide) rfl ?_
  refine j_iconst X (0 : Int32) dX4_wouldLoop_2 (by rfl) ?_
  refine j_istore X [(4, .int (0 : Int32)), (3, .int p2), (0, .ref (kB κ + b0)), (1, .int p1), (2, .int p2)] dX4_wouldLoop_3 (by decide) rfl ?_
  refine j_lv [2, 3, 1, 0] rfl ?_
  refine j_loop (fun (k : Int32 → Int32 → Option (jR Unit)) => ∀ (x2 : Int32) (x3 : Int32), J κ 6 rm_X4_wouldLoop (jQf κ rm_X4_wouldLoop rvI (fun (S9 : Unit) M9 => M9 = memG 0 358 (kD κ) (kB κ) S X9) z) (k x2 x3) (memG 0 358 (kD κ) (kB κ) S X9) z 0 0 [(0, .ref (kB κ + b0)), (1, .int p1), (3, .int x2), (4, .int x3)] 5 []) (fun _ _ => j_none) (fun rec1 hrec1 => ?_) 1000 _ _
  intro x2 x3
  refine j_iload X 3 rfl dX4_wouldLoop_5 ?_
  refine j_aload_n X 0 rfl dX4_wouldLoop_7 rfl ?_
  refine g_getf X 0 (kGraph hb0).1 cf_X4 (by decide) fl_X4_7 dX4_wouldLoop_8 rfl rfl ?_
  refine j_alen X 0 rfl rfl dX4_wouldLoop_11 ((memG_at (kGraph hb0).2.1).trans (congrArg some (cellK_i (n := n0) (kGraph_n hb0) _))) ?_
  refine j_icmp_ge X 63 dX4_wouldLoop_12 (by decide) ?_ ?_
  · refine j_iload_n X 2 rfl dX4_wouldLoop_63 rfl ?_
    refine j_iload_n X 1 rfl dX4_wouldLoop_64 rfl ?_
    refine j_call0SN X 0 0 (c_X10_hasBit X.tr (memG 0 358 (kD κ) (kB κ) S X9) z x2 p1) me_X10_hasBit mn_X4_19 st_X10_hasBit dX4_wouldLoop_65 (rest := []) rfl rfl (by decide) (by decide) (Nat.le_of_ble_eq_true rfl) (fun v4 u7 M6 hM5 => ?_)
    subst M6
    refine j_st (st1 := [.int v4]) rfl ?_
    exact j_zret X dX4_wouldLoop_68 rfl (fun _ h => h)
  · refine j_iconst X (0 : Int32) dX4_wouldLoop_15 (by rfl) ?_
    refine j_istore X [(5, .int (0 : Int32)), (0, .ref (kB κ + b0)), (1, .int p1), (3, .int x2), (4, .int x3)] dX4_wouldLoop_16 (by decide) rfl ?_
    refine j_lv [1, 2, 3, 4, 0] rfl ?_
    refine j_loop (fun (k : Int32 → Int32 → Option (jR Unit)) => ∀ (x9 : Int32) (x10 : Int32), J κ 6 rm_X4_wouldLoop (jQf κ rm_X4_wouldLoop rvI (fun (S9 : Unit) M9 => M9 = memG 0 358 (kD κ) (kB κ) S X9) z) (k x9 x10) (memG 0 358 (kD κ) (kB κ) S X9) z 0 0 [(0, .ref (kB κ + b0)), (1, .int p1), (3, .int x9), (4, .int x3), (5, .int x10)] 18 []) (fun _ _ => j_none) (fun rec8 hrec8 => ?_) 1000 _ _
    intro x9 x10
    refine j_iload X 4 rfl dX4_wouldLoop_18 ?_
    refine j_aload_n X 0 rfl dX4_wouldLoop_20 rfl ?_
    refine g_getf X 0 (kGraph hb0).1 cf_X4 (by decide) fl_X4_7 dX4_wouldLoop_21 rfl rfl ?_
    refine j_alen X 0 rfl rfl dX4_wouldLoop_24 ((memG_at (kGraph hb0).2.1).trans (congrArg some (cellK_i (n := n0) (kGraph_n hb0) _))) ?_
    refine j_icmp_ge X 57 dX4_wouldLoop_25 (by decide) ?_ ?_
    · refine j_iincL X 3 (fun x11 => [(4, .int x11), (0, .ref (kB κ + b0)), (1, .int p1), (3, .int x9), (5, .int x10)]) dX4_wouldLoop_57 rfl (by rfl) (by decide) (fun _ => rfl) (fun x11 => ?_)
      refine j_goto X 5 dX4_wouldLoop_60 (by decide) ?_
      refine j_lv [1, 2, 3, 0] rfl ?_
      exact hrec1 x9 x11
    · refine j_iload_n X 2 rfl dX4_wouldLoop_28 rfl ?_
      refine j_iload_n X 2 rfl dX4_wouldLoop_29 rfl ?_
      refine j_iload X 4 rfl dX4_wouldLoop_30 ?_
      refine j_call0SN X 0 0 (c_X10_hasBit X.tr (memG 0 358 (kD κ) (kB κ) S X9) z x9 x10) me_X10_hasBit mn_X4_19 st_X10_hasBit dX4_wouldLoop_32 (rest := [.int x9]) rfl rfl (by decide) (by decide) (Nat.le_of_ble_eq_true rfl) (fun v12 u20 M19 hM18 => ?_)
      subst M19
      refine j_st (st1 := [.int v12, .int x9]) rfl ?_
      refine j_join (fun k13 => ∀ (x15 : Int32), J κ 6 rm_X4_wouldLoop (jQf κ rm_X4_wouldLoop rvI (fun (S9 : Unit) M9 => M9 = memG 0 358 (kD κ) (kB κ) S X9) z) (k13 x15) (memG 0 358 (kD κ) (kB κ) S X9) z 0 0 [(0, .ref (kB κ + b0)), (1, .int p1), (4, .int x3), (5, .int x10)] 49 [.int x15, .int x9]) ?_ (fun k13 hk13 => ?_)
      · intro x15
        refine j_ior X dX4_wouldLoop_49 ?_
        refine j_letE (fun x16 => ?_)
        refine j_istore_n X [(3, .int x16), (0, .ref (kB κ + b0)), (1, .int p1), (4, .int x3), (5, .int x10)] dX4_wouldLoop_50 rfl (by decide) rfl ?_
        refine j_iincL X 4 (fun x17 => [(5, .int x17), (3, .int x16), (0, .ref (kB κ + b0)), (1, .int p1), (4, .int x3)]) dX4_wouldLoop_51 rfl (by rfl) (by decide) (fun _ => rfl) (fun x17 => ?_)
        refine j_goto X 18 dX4_wouldLoop_54 (by decide) ?_
        refine j_lv [2, 3, 1, 4, 0] rfl ?_
        exact hrec8 x16 x17
      · refine j_if_eq X 48 dX4_wouldLoop_35 (by decide) ?_ ?_
        · refine j_iconst X (0 : Int32) dX4_wouldLoop_48 (by rfl) ?_
          refine j_lv [0, 1, 3, 4] rfl ?_
          exact hk13 (0 : Int32)
        · refine j_aload_n X 0 rfl dX4_wouldLoop_38 rfl ?_
          refine g_getf X 0 (kGraph hb0).1 cf_X4 (by decide) fl_X4_7 dX4_wouldLoop_39 rfl rfl ?_
          refine j_iload X 4 rfl dX4_wouldLoop_42 ?_
          refine g_iald X n0 (kGraph hb0).2.1 (kGraph_n hb0) dX4_wouldLoop_44 (fun h14 => ?_)
          refine j_goto X 49 dX4_wouldLoop_45 (by decide) ?_
          refine j_lv [0, 1, 3, 4] rfl ?_
          exact hk13 ((S (b0 + 1) x10.toNatClampNeg))
def f_X0_canBeSet (S : jS) (p1 : Int32) : Option (jR jS) := jbin0 (f_X0_faultOf S p1) (fun v1 S2 => joinK (fun (x14 : Int32) => chk (isb x14) (some (0, x14, S2))) (fun k3 => joinK (fun (_ : Unit) => k3 (0 : Int32)) (fun k4 => (if v1 = (-1 : Int32) then chk (inb p1 6) (jbin0 (f_X8_audiencesReferredTo S2 (37 + 4 * p1.toNatClampNeg)) (fun v6 _ => jbin0 (f_X4_wouldLoop S2 27 6 p1 v6) (fun v7 _ => (if v7 = (0 : Int32) then k3 (1 : Int32) else k4 ())))) else k4 ()))))
abbrev rm_X0_canBeSet : Room := { frames := 4, cells := 0, slots := 0, locals := 85 }
set_option maxHeartbeats 4000000 in
set_option maxRecDepth 100000 in
theorem c_X0_canBeSet {l : Launch} {D : va_G} {B t0 : Nat} (hl9 : l.stackTraces = false) (S : jS) (X9 : jMem) (z : Nat → Prop) (p1 : Int32) : jCf l D B t0 yX0_canBeSet cX0_canBeSet 2 (some .boolean) rm_X0_canBeSet [.ref (B + 24), .int p1] (memG 0 358 D B S X9) z (f_X0_canBeSet S p1) rvI (fun S9 M9 => M9 = memG 0 358 D B S9 X9) z := by
  refine jC_of hl9 (me_X0_canBeSet).1 [(0, .ref (B + 24)), (1, .int p1)] ⟨by decide +kernel, Nat.le_of_ble_eq_true rfl⟩ rfl (fun κ hl hD hB hT X htab hin => ?_)
  subst hl hD hB hT
  have X : jX κ RX0 cX0_canBeSet 2 (some .boolean) := X
  unfold f_X0_canBeSet
  refine j_aload_n X 0 rfl dX0_canBeSet_0 rfl ?_
  refine j_iload_n X 1 rfl dX0_canBeSet_1 rfl ?_
  refine j_call0V X 0 0 (c_X0_faultOf X.tr S X9 z p1) me_X0_faultOf ml_X0_55 iv_X0_faultOf cf_X0 dX0_canBeSet_2 (memG_at kf_24) (rest := []) rfl rfl (by decide) (by decide) (Nat.le_of_ble_eq_true rfl) (fun v1 S2 M16 hM15 => ?_)
  subst M16
  refine j_st (st1 := [.int v1]) rfl ?_
  refine j_iconst X (-1 : Int32) dX0_canBeSet_5 (by rfl) ?_
  refine j_join (fun k3 => ∀ (x14 : Int32), J κ 2 rm_X0_canBeSet (jQf κ rm_X0_canBeSet rvI (fun S9 M9 => M9 = memG 0 358 (kD κ) (kB κ) S9 X9) z) (k3 x14) (memG 0 358 (kD κ) (kB κ) S2 X9) z 0 0 [] 34 [.int x14]) ?_ (fun k3 hk3 => ?_)
  · intro x14
    exact j_zret X dX0_canBeSet_34 rfl (fun _ h => h)
  · refine j_join (fun k4 => ∀ (_ : Unit), J κ 2 rm_X0_canBeSet (jQf κ rm_X0_canBeSet rvI (fun S9 M9 => M9 = memG 0 358 (kD κ) (kB κ) S9 X9) z) (k4 ()) (memG 0 358 (kD κ) (kB κ) S2 X9) z 0 0 [] 33 []) ?_ (fun k4 hk4 => ?_)
    · intro _
      refine j_iconst X (0 : Int32) dX0_canBeSet_33 (by rfl) ?_
      exact hk3 (0 : Int32)
    · refine j_icmp_ne X 33 dX0_canBeSet_6 (by decide) ?_ ?_
      · refine j_aload_n X 0 rfl dX0_canBeSet_9 rfl ?_
        refine g_getf X 2 kf_24 cf_X0 (by decide) fl_X0_25 dX0_canBeSet_10 rfl rfl ?_
        refine j_iload_n X 1 rfl dX0_canBeSet_13 rfl ?_
        refine j_aload_n X 0 rfl dX0_canBeSet_14 rfl ?_
        refine g_getf X 0 kf_24 cf_X0 (by decide) fl_X0_11 dX0_canBeSet_15 rfl rfl ?_
        refine j_iload_n X 1 rfl dX0_canBeSet_18 rfl ?_
        refine g_aald X 5 6 kf_25 rfl rfl dX0_canBeSet_19 rfl rfl (fun h5 => ?_)
        refine j_call0V X 0 0 (c_X8_audiencesReferredTo X.tr S2 X9 z (37 + 4 * p1.toNatClampNeg) (isText_d h5)) me_X8_audiencesReferredTo ml_X0_59 iv_X8_audiencesReferredTo cf_X8 dX0_canBeSet_20 (memG_at (kText (isText_d h5)).1) (rest := [.int p1, .ref (kB κ + 27)]) rfl rfl (by decide) (by decide) (Nat.le_of_ble_eq_true rfl) (fun v6 u13 M12 hM11 => ?_)
        subst M12
        refine j_st (st1 := [.int v6, .int p1, .ref (kB κ + 27)]) rfl ?_
        refine j_call0V X 0 0 (c_X4_wouldLoop X.tr S2 X9 z 27 6 isGraph_6 p1 v6) me_X4_wouldLoop ml_X0_63 iv_X4_wouldLoop cf_X4 dX0_canBeSet_23 (memG_at (kGraph isGraph_6).1) (rest := []) rfl rfl (by decide) (by decide) (Nat.le_of_ble_eq_true rfl) (fun v7 u10 M9 hM8 => ?_)
        subst M9
        refine j_st (st1 := [.int v7]) rfl ?_
        refine j_if_ne X 33 dX0_canBeSet_26 (by decide) ?_ ?_
        · refine j_iconst X (1 : Int32) dX0_canBeSet_29 (by rfl) ?_
          refine j_goto X 34 dX0_canBeSet_30 (by decide) ?_
          refine j_lv [] rfl ?_
          exact hk3 (1 : Int32)
        · refine j_lv [] rfl ?_
          exact hk4 ()
      · refine j_lv [] rfl ?_
        exact hk4 ()
def f_X2_beginExpression (S : jS) : Option (jR jS) := chk (inb (S 33 3) 9) (letE (jset S 34 (S 33 3).toNatClampNeg (0 : Int32)) fun S1 => chk (inb (S1 33 3) 9) (letE (jset S1 35 (S1 33 3).toNatClampNeg (1048575 : Int32)) fun S2 => chk (inb (S2 33 3) 9) (letE (jset S2 36 (S2 33 3).toNatClampNeg (0 : Int32)) fun S3 => some (0, (0 : Int32), S3))))
abbrev rm_X2_beginExpression : Room := { frames := 0, cells := 0, slots := 0, locals := 0 }
set_option maxHeartbeats 4000000 in
set_option maxRecDepth 100000 in
theorem c_X2_beginExpression {l : Launch} {D : va_G} {B t0 : Nat} (hl9 : l.stackTraces = false) (S : jS) (X9 : jMem) (z : Nat → Prop) : jCf l D B t0 yX2_beginExpression cX2_beginExpression 1 none rm_X2_beginExpression [.ref (B + 33)] (memG 0 358 D B S X9) z (f_X2_beginExpression S) rvV (fun S9 M9 => M9 = memG 0 358 D B S9 X9) z := by
  refine jC_of hl9 (me_X2_beginExpression).1 [(0, .ref (B + 33))] ⟨by decide +kernel, Nat.le_of_ble_eq_true rfl⟩ rfl (fun κ hl hD hB hT X htab hin => ?_)
  subst hl hD hB hT
  have X : jX κ RX2 cX2_beginExpression 1 none := X
  unfold f_X2_beginExpression
  refine j_aload_n X 0 rfl dX2_beginExpression_0 rfl ?_
  refine g_getf X 0 kf_33 cf_X2 (by decide) fl_X2_9 dX2_beginExpression_1 rfl rfl ?_
  refine j_aload_n X 0 rfl dX2_beginExpression_4 rfl ?_
  refine g_getf X 3 kf_33 cf_X2 (by decide) fl_X2_27 dX2_beginExpression_5 rfl rfl ?_
  refine j_iconst X (0 : Int32) dX2_beginExpression_8 (by rfl) ?_
  refine g_iast X 9 kf_34 (by decide) dX2_beginExpression_9 (fun h6 S1 => ?_)
  refine j_aload_n X 0 rfl dX2_beginExpression_10 rfl ?_
  refine g_getf X 1 kf_33 cf_X2 (by decide) fl_X2_15 dX2_beginExpression_11 rfl rfl ?_
  refine j_aload_n X 0 rfl dX2_beginExpression_14 rfl ?_
  refine g_getf X 3 kf_33 cf_X2 (by decide) fl_X2_27 dX2_beginExpression_15 rfl rfl ?_
  refine j_ldc X kc_X2_41 dX2_beginExpression_18 ?_
  refine g_iast X 9 kf_35 (by decide) dX2_beginExpression_20 (fun h5 S2 => ?_)
  refine j_aload_n X 0 rfl dX2_beginExpression_21 rfl ?_
  refine g_getf X 2 kf_33 cf_X2 (by decide) fl_X2_18 dX2_beginExpression_22 rfl rfl ?_
  refine j_aload_n X 0 rfl dX2_beginExpression_25 rfl ?_
  refine g_getf X 3 kf_33 cf_X2 (by decide) fl_X2_27 dX2_beginExpression_26 rfl rfl ?_
  refine j_iconst X (0 : Int32) dX2_beginExpression_29 (by rfl) ?_
  refine g_iast X 9 kf_36 (by decide) dX2_beginExpression_30 (fun h4 S3 => ?_)
  exact j_vret X dX2_beginExpression_31 rfl (fun _ h => h)
def f_X2_addFactor (S : jS) (p1 : Int32) : Option (jR jS) := chk (inb (S 33 3) 9) (chk (inb (S 33 3) 9) (chk (inb (S 33 3) 9) (letE (jset S 35 (S 33 3).toNatClampNeg (((S 35 (S 33 3).toNatClampNeg) &&& (p1 ^^^ (S 36 (S 33 3).toNatClampNeg))))) fun S1 => chk (inb (S1 33 3) 9) (letE (jset S1 36 (S1 33 3).toNatClampNeg (0 : Int32)) fun S2 => some (0, (0 : Int32), S2)))))
abbrev rm_X2_addFactor : Room := { frames := 0, cells := 0, slots := 0, locals := 0 }
set_option maxHeartbeats 4000000 in
set_option maxRecDepth 100000 in
theorem c_X2_addFactor {l : Launch} {D : va_G} {B t0 : Nat} (hl9 : l.stackTraces = false) (S : jS) (X9 : jMem) (z : Nat → Prop) (p1 : Int32) : jCf l D B t0 yX2_addFactor cX2_addFactor 2 none rm_X2_addFactor [.ref (B + 33), .int p1] (memG 0 358 D B S X9) z (f_X2_addFactor S p1) rvV (fun S9 M9 => M9 = memG 0 358 D B S9 X9) z := by
  refine jC_of hl9 (me_X2_addFactor).1 [(0, .ref (B + 33)), (1, .int p1)] ⟨by decide +kernel, Nat.le_of_ble_eq_true rfl⟩ rfl (fun κ hl hD hB hT X htab hin => ?_)
  subst hl hD hB hT
  have X : jX κ RX2 cX2_addFactor 2 none := X
  unfold f_X2_addFactor
  refine j_aload_n X 0 rfl dX2_addFactor_0 rfl ?_
  refine g_getf X 1 kf_33 cf_X2 (by decide) fl_X2_15 dX2_addFactor_1 rfl rfl ?_
  refine j_aload_n X 0 rfl dX2_addFactor_4 rfl ?_
  refine g_getf X 3 kf_33 cf_X2 (by decide) fl_X2_27 dX2_addFactor_5 rfl rfl ?_
  refine j_dup2 X dX2_addFactor_8 rfl rfl ?_
  refine g_iald X 9 kf_35 (by decide) dX2_addFactor_9 (fun h6 => ?_)
  refine j_iload_n X 1 rfl dX2_addFactor_10 rfl ?_
  refine j_aload_n X 0 rfl dX2_addFactor_11 rfl ?_
  refine g_getf X 2 kf_33 cf_X2 (by decide) fl_X2_18 dX2_addFactor_12 rfl rfl ?_
  refine j_aload_n X 0 rfl dX2_addFactor_15 rfl ?_
  refine g_getf X 3 kf_33 cf_X2 (by decide) fl_X2_27 dX2_addFactor_16 rfl rfl ?_
  refine g_iald X 9 kf_36 (by decide) dX2_addFactor_19 (fun h5 => ?_)
  refine j_ixor X dX2_addFactor_20 ?_
  refine j_iand X dX2_addFactor_21 ?_
  refine g_iast X 9 kf_35 (by decide) dX2_addFactor_22 (fun h4 S1 => ?_)
  refine j_aload_n X 0 rfl dX2_addFactor_23 rfl ?_
  refine g_getf X 2 kf_33 cf_X2 (by decide) fl_X2_18 dX2_addFactor_24 rfl rfl ?_
  refine j_aload_n X 0 rfl dX2_addFactor_27 rfl ?_
  refine g_getf X 3 kf_33 cf_X2 (by decide) fl_X2_27 dX2_addFactor_28 rfl rfl ?_
  refine j_iconst X (0 : Int32) dX2_addFactor_31 (by rfl) ?_
  refine g_iast X 9 kf_36 (by decide) dX2_addFactor_32 (fun h3 S2 => ?_)
  exact j_vret X dX2_addFactor_33 rfl (fun _ h => h)
def f_X8_numberAt (S : jS) (b0 : Nat) (p1 : Int32) : Option (jR Unit) := jbin0 (f_X8_digitAt S b0 p1) (fun v1 _ => jbin0 (f_X8_digitAt S b0 ((p1 + (1 : Int32)))) (fun v2 _ => joinK (fun (x4 : Int32) => some (0, x4, ())) (fun k3 => (if v2 = (-1 : Int32) then k3 v1 else k3 ((((10 : Int32) * v1) + v2))))))
abbrev rm_X8_numberAt : Room := { frames := 2, cells := 0, slots := 0, locals := 43 }
set_option maxHeartbeats 4000000 in
set_option maxRecDepth 100000 in
theorem c_X8_numberAt {l : Launch} {D : va_G} {B t0 : Nat} (hl9 : l.stackTraces = false) (S : jS) (X9 : jMem) (z : Nat → Prop) (b0 : Nat) (hb0 : isText b0) (p1 : Int32) : jCf l D B t0 yX8_numberAt cX8_numberAt 4 (some .int) rm_X8_numberAt [.ref (B + b0), .int p1] (memG 0 358 D B S X9) z (f_X8_numberAt S b0 p1) rvI (fun (S9 : Unit) M9 => M9 = memG 0 358 D B S X9) z := by
  refine jC_of hl9 (me_X8_numberAt).1 [(0, .ref (B + b0)), (1, .int p1)] ⟨by decide +kernel, Nat.le_of_ble_eq_true rfl⟩ rfl (fun κ hl hD hB hT X htab hin => ?_)
  subst hl hD hB hT
  have X : jX κ RX8 cX8_numberAt 4 (some .int) := X
  unfold f_X8_numberAt
  refine j_aload_n X 0 rfl dX8_numberAt_0 rfl ?_
  refine j_iload_n X 1 rfl dX8_numberAt_1 rfl ?_
  refine j_call0V X 0 0 (c_X8_digitAt X.tr S X9 z b0 hb0 p1) me_X8_digitAt ml_X8_23 iv_X8_digitAt cf_X8 dX8_numberAt_2 (memG_at (kText hb0).1) (rest := []) rfl rfl (by decide) (by decide) (Nat.le_of_ble_eq_true rfl) (fun v1 u10 M9 hM8 => ?_)
  subst M9
  refine j_st (st1 := [.int v1]) rfl ?_
  refine j_istore_n X [(2, .int v1), (0, .ref (kB κ + b0)), (1, .int p1)] dX8_numberAt_5 rfl (by decide) rfl ?_
  refine j_aload_n X 1 rfl dX8_numberAt_6 rfl ?_
  refine j_iload_n X 2 rfl dX8_numberAt_7 rfl ?_
  refine j_iconst X (1 : Int32) dX8_numberAt_8 (by rfl) ?_
  refine j_iadd X dX8_numberAt_9 ?_
  refine j_call0V X 0 0 (c_X8_digitAt X.tr S X9 z b0 hb0 ((p1 + (1 : Int32)))) me_X8_digitAt ml_X8_23 iv_X8_digitAt cf_X8 dX8_numberAt_10 (memG_at (kText hb0).1) (rest := []) rfl rfl (by decide) (by decide) (Nat.le_of_ble_eq_true rfl) (fun v2 u7 M6 hM5 => ?_)
  subst M6
  refine j_st (st1 := [.int v2]) rfl ?_
  refine j_istore_n X [(3, .int v2), (2, .int v1), (0, .ref (kB κ + b0)), (1, .int p1)] dX8_numberAt_13 rfl (by decide) rfl ?_
  refine j_iload_n X 0 rfl dX8_numberAt_14 rfl ?_
  refine j_iconst X (-1 : Int32) dX8_numberAt_15 (by rfl) ?_
  refine j_join (fun k3 => ∀ (x4 : Int32), J κ 4 rm_X8_numberAt (jQf κ rm_X8_numberAt rvI (fun (S9 : Unit) M9 => M9 = memG 0 358 (kD κ) (kB κ) S X9) z) (k3 x4) (memG 0 358 (kD κ) (kB κ) S X9) z 0 0 [] 29 [.int x4]) ?_ (fun k3 hk3 => ?_)
  · intro x4
    exact j_iret X dX8_numberAt_29 rfl (fun _ h => h)
  · refine j_icmp_ne X 23 dX8_numberAt_16 (by decide) ?_ ?_
    · refine j_iload_n X 1 rfl dX8_numberAt_19 rfl ?_
      refine j_goto X 29 dX8_numberAt_20 (by decide) ?_
      refine j_lv [] rfl ?_
      exact hk3 v1
    · refine j_bipush X (10 : Int32) dX8_numberAt_23 (by rfl) ?_
      refine j_iload_n X 1 rfl dX8_numberAt_25 rfl ?_
      refine j_imul X dX8_numberAt_26 ?_
      refine j_iload_n X 0 rfl dX8_numberAt_27 rfl ?_
      refine j_iadd X dX8_numberAt_28 ?_
      refine j_lv [] rfl ?_
      exact hk3 ((((10 : Int32) * v1) + v2))
def f_X6_whoCompares (S : jS) (p1 : Int32) (p2 : Int32) (p3 : Int32) : Option (jR Unit) := loopK (fun (rec1 : Int32 → Int32 → Option (jR Unit)) (x2 : Int32) (x3 : Int32) => (if (20 : Int32) ≤ x3 then some (0, x2, ()) else chk (inb x3 20) (chk (inb p1 3) (letE ((S (3 + x3.toNatClampNeg) p1.toNatClampNeg)) fun x5 => joinK (fun (x7 : Int32) => jbin0 (f_X10_withBit x2 x3 x7) (fun v8 _ => letE (x3 + (1 : Int32)) fun x9 => rec1 v8 x9)) (fun k6 => (if p2 = (61 : Int32) then (if x5 = p3 then k6 (1 : Int32) else k6 (0 : Int32)) else (if p2 = (60 : Int32) then (if p3 ≤ x5 then k6 (0 : Int32) else k6 (1 : Int32)) else (if x5 ≤ p3 then k6 (0 : Int32) else k6 (1 : Int32))))))))) (fun _ _ => none) 1000 (0 : Int32) (0 : Int32)
abbrev rm_X6_whoCompares : Room := { frames := 1, cells := 0, slots := 0, locals := 22 }
set_option maxHeartbeats 4000000 in
set_option maxRecDepth 100000 in
theorem c_X6_whoCompares {l : Launch} {D : va_G} {B t0 : Nat} (hl9 : l.stackTraces = false) (S : jS) (X9 : jMem) (z : Nat → Prop) (p1 : Int32) (p2 : Int32) (p3 : Int32) : jCf l D B t0 yX6_whoCompares cX6_whoCompares 8 (some .int) rm_X6_whoCompares [.ref (B + 1), .int p1, .int p2, .int p3] (memG 0 358 D B S X9) z (f_X6_whoCompares S p1 p2 p3) rvI (fun (S9 : Unit) M9 => M9 = memG 0 358 D B S X9) z := by
  refine jC_of hl9 (me_X6_whoCompares).1 [(0, .ref (B + 1)), (1, .int p1), (2, .int p2), (3, .int p3)] ⟨by decide +kernel, Nat.le_of_ble_eq_true rfl⟩ rfl (fun κ hl hD hB hT X htab hin => ?_)
  subst hl hD hB hT
  have X : jX κ RX6 cX6_whoCompares 8 (some .int) := X
  unfold f_X6_whoCompares
  refine j_iconst X (0 : Int32) dX6_whoCompares_0 (by rfl) ?_
  refine j_istore X [(4, .int (0 : Int32)), (0, .ref (kB κ + 1)), (1, .int p1), (2, .int p2), (3, .int p3)] dX6_whoCompares_1 (by decide) rfl ?_
  refine j_iconst X (0 : Int32) dX6_whoCompares_3 (by rfl) ?_
  refine j_istore X [(5, .int (0 : Int32)), (4, .int (0 : Int32)), (0, .ref (kB κ + 1)), (1, .int p1), (2, .int p2), (3, .int p3)] dX6_whoCompares_4 (by decide) rfl ?_
  refine j_lv [2, 3, 4, 5, 1, 0] rfl ?_
  refine j_loop (fun (k : Int32 → Int32 → Option (jR Unit)) => ∀ (x2 : Int32) (x3 : Int32), J κ 8 rm_X6_whoCompares (jQf κ rm_X6_whoCompares rvI (fun (S9 : Unit) M9 => M9 = memG 0 358 (kD κ) (kB κ) S X9) z) (k x2 x3) (memG 0 358 (kD κ) (kB κ) S X9) z 0 0 [(0, .ref (kB κ + 1)), (1, .int p1), (2, .int p2), (3, .int p3), (4, .int x2), (5, .int x3)] 6 []) (fun _ _ => j_none) (fun rec1 hrec1 => ?_) 1000 _ _
  intro x2 x3
  refine j_iload X 5 rfl dX6_whoCompares_6 ?_
  refine j_bipush X (20 : Int32) dX6_whoCompares_8 (by rfl) ?_
  refine j_icmp_ge X 94 dX6_whoCompares_10 (by decide) ?_ ?_
  · refine j_iload X 4 rfl dX6_whoCompares_94 ?_
    exact j_iret X dX6_whoCompares_96 rfl (fun _ h => h)
  · refine j_aload_n X 0 rfl dX6_whoCompares_13 rfl ?_
    refine g_getf X 0 kf_1 cf_X6 (by decide) fl_X6_11 dX6_whoCompares_14 rfl rfl ?_
    refine j_iload X 5 rfl dX6_whoCompares_17 ?_
    refine g_aald X 4 20 kf_2 rfl rfl dX6_whoCompares_19 rfl rfl (fun h4 => ?_)
    refine j_iload_n X 1 rfl dX6_whoCompares_20 rfl ?_
    refine g_iald X 3 (kAttr h4) (by decide) dX6_whoCompares_21 (fun h13 => ?_)
    refine j_letE (fun x5 => ?_)
    refine j_istore X [(6, .int x5), (0, .ref (kB κ + 1)), (1, .int p1), (2, .int p2), (3, .int p3), (4, .int x2), (5, .int x3)] dX6_whoCompares_22 (by decide) rfl ?_
    refine j_iload_n X 3 rfl dX6_whoCompares_24 rfl ?_
    refine j_bipush X (61 : Int32) dX6_whoCompares_25 (by rfl) ?_
    refine j_join (fun k6 => ∀ (x7 : Int32), J κ 8 rm_X6_whoCompares (jQf κ rm_X6_whoCompares rvI (fun (S9 : Unit) M9 => M9 = memG 0 358 (kD κ) (kB κ) S X9) z) (k6 x7) (memG 0 358 (kD κ) (kB κ) S X9) z 0 0 [(0, .ref (kB κ + 1)), (1, .int p1), (2, .int p2), (3, .int p3), (4, .int x2), (5, .int x3)] 75 [.int x7]) ?_ (fun k6 hk6 => ?_)
    · intro x7
      refine j_istore X [(7, .int x7), (0, .ref (kB κ + 1)), (1, .int p1), (2, .int p2), (3, .int p3), (4, .int x2), (5, .int x3)] dX6_whoCompares_75 (by decide) rfl ?_
      refine j_iload X 5 rfl dX6_whoCompares_77 ?_
      refine j_iload X 6 rfl dX6_whoCompares_79 ?_
      refine j_iload X 0 rfl dX6_whoCompares_81 ?_
      refine j_call0SN X 0 0 (c_X10_withBit X.tr (memG 0 358 (kD κ) (kB κ) S X9) z x2 x3 x7) me_X10_withBit mn_X6_20 st_X10_withBit dX6_whoCompares_83 (rest := []) rfl rfl (by decide) (by decide) (Nat.le_of_ble_eq_true rfl) (fun v8 u12 M11 hM10 => ?_)
      subst M11
      refine j_st (st1 := [.int v8]) rfl ?_
      refine j_istore X [(4, .int v8), (7, .int x7), (0, .ref (kB κ + 1)), (1, .int p1), (2, .int p2), (3, .int p3), (5, .int x3)] dX6_whoCompares_86 (by decide) rfl ?_
      refine j_iincL X 6 (fun x9 => [(5, .int x9), (4, .int v8), (7, .int x7), (0, .ref (kB κ + 1)), (1, .int p1), (2, .int p2), (3, .int p3)]) dX6_whoCompares_88 rfl (by rfl) (by decide) (fun _ => rfl) (fun x9 => ?_)
      refine j_goto X 6 dX6_whoCompares_91 (by decide) ?_
      refine j_lv [3, 4, 5, 6, 1, 0] rfl ?_
      exact hrec1 v8 x9
    · refine j_icmp_ne X 44 dX6_whoCompares_27 (by decide) ?_ ?_
      · refine j_iload X 0 rfl dX6_whoCompares_30 ?_
        refine j_iload_n X 4 rfl dX6_whoCompares_32 rfl ?_
        refine j_icmp_ne X 40 dX6_whoCompares_33 (by decide) ?_ ?_
        · refine j_iconst X (1 : Int32) dX6_whoCompares_36 (by rfl) ?_
          refine j_goto X 75 dX6_whoCompares_37 (by decide) ?_
          refine j_lv [1, 2, 3, 4, 5, 6] rfl ?_
          exact hk6 (1 : Int32)
        · refine j_iconst X (0 : Int32) dX6_whoCompares_40 (by rfl) ?_
          refine j_goto X 75 dX6_whoCompares_41 (by decide) ?_
          refine j_lv [1, 2, 3, 4, 5, 6] rfl ?_
          exact hk6 (0 : Int32)
      · refine j_iload_n X 3 rfl dX6_whoCompares_44 rfl ?_
        refine j_bipush X (60 : Int32) dX6_whoCompares_45 (by rfl) ?_
        refine j_icmp_ne X 64 dX6_whoCompares_47 (by decide) ?_ ?_
        · refine j_iload X 0 rfl dX6_whoCompares_50 ?_
          refine j_iload_n X 4 rfl dX6_whoCompares_52 rfl ?_
          refine j_icmp_ge X 60 dX6_whoCompares_53 (by decide) ?_ ?_
          · refine j_iconst X (0 : Int32) dX6_whoCompares_60 (by rfl) ?_
            refine j_goto X 75 dX6_whoCompares_61 (by decide) ?_
            refine j_lv [1, 2, 3, 4, 5, 6] rfl ?_
            exact hk6 (0 : Int32)
          · refine j_iconst X (1 : Int32) dX6_whoCompares_56 (by rfl) ?_
            refine j_goto X 75 dX6_whoCompares_57 (by decide) ?_
            refine j_lv [1, 2, 3, 4, 5, 6] rfl ?_
            exact hk6 (1 : Int32)
        · refine j_iload X 0 rfl dX6_whoCompares_64 ?_
          refine j_iload_n X 4 rfl dX6_whoCompares_66 rfl ?_
          refine j_icmp_le X 74 dX6_whoCompares_67 (by decide) ?_ ?_
          · refine j_iconst X (0 : Int32) dX6_whoCompares_74 (by rfl) ?_
            refine j_lv [1, 2, 3, 4, 5, 6] rfl ?_
            exact hk6 (0 : Int32)
          · refine j_iconst X (1 : Int32) dX6_whoCompares_70 (by rfl) ?_
            refine j_goto X 75 dX6_whoCompares_71 (by decide) ?_
            refine j_lv [1, 2, 3, 4, 5, 6] rfl ?_
            exact hk6 (1 : Int32)
def f_X6_whoHasTag (S : jS) (p1 : Int32) : Option (jR Unit) := loopK (fun (rec1 : Int32 → Int32 → Option (jR Unit)) (x2 : Int32) (x3 : Int32) => (if (20 : Int32) ≤ x3 then some (0, x2, ()) else chk (inb x3 20) (jbin0 (f_X10_hasBit (S 23 x3.toNatClampNeg) p1) (fun v4 _ => jbin0 (f_X10_withBit x2 x3 v4) (fun v5 _ => letE (x3 + (1 : Int32)) fun x6 => rec1 v5 x6))))) (fun _ _ => none) 1000 (0 : Int32) (0 : Int32)
abbrev rm_X6_whoHasTag : Room := { frames := 1, cells := 0, slots := 0, locals := 22 }
set_option maxHeartbeats 4000000 in
set_option maxRecDepth 100000 in
theorem c_X6_whoHasTag {l : Launch} {D : va_G} {B t0 : Nat} (hl9 : l.stackTraces = false) (S : jS) (X9 : jMem) (z : Nat → Prop) (p1 : Int32) : jCf l D B t0 yX6_whoHasTag cX6_whoHasTag 4 (some .int) rm_X6_whoHasTag [.ref (B + 1), .int p1] (memG 0 358 D B S X9) z (f_X6_whoHasTag S p1) rvI (fun (S9 : Unit) M9 => M9 = memG 0 358 D B S X9) z := by
  refine jC_of hl9 (me_X6_whoHasTag).1 [(0, .ref (B + 1)), (1, .int p1)] ⟨by decide +kernel, Nat.le_of_ble_eq_true rfl⟩ rfl (fun κ hl hD hB hT X htab hin => ?_)
  subst hl hD hB hT
  have X : jX κ RX6 cX6_whoHasTag 4 (some .int) := X
  unfold f_X6_whoHasTag
  refine j_iconst X (0 : Int32) dX6_whoHasTag_0 (by rfl) ?_
  refine j_istore_n X [(2, .int (0 : Int32)), (0, .ref (kB κ + 1)), (1, .int p1)] dX6_whoHasTag_1 rfl (by decide) rfl ?_
  refine j_iconst X (0 : Int32) dX6_whoHasTag_2 (by rfl) ?_
  refine j_istore_n X [(3, .int (0 : Int32)), (2, .int (0 : Int32)), (0, .ref (kB κ + 1)), (1, .int p1)] dX6_whoHasTag_3 rfl (by decide) rfl ?_
  refine j_lv [2, 3, 1, 0] rfl ?_
  refine j_loop (fun (k : Int32 → Int32 → Option (jR Unit)) => ∀ (x2 : Int32) (x3 : Int32), J κ 4 rm_X6_whoHasTag (jQf κ rm_X6_whoHasTag rvI (fun (S9 : Unit) M9 => M9 = memG 0 358 (kD κ) (kB κ) S X9) z) (k x2 x3) (memG 0 358 (kD κ) (kB κ) S X9) z 0 0 [(0, .ref (kB κ + 1)), (1, .int p1), (2, .int x2), (3, .int x3)] 4 []) (fun _ _ => j_none) (fun rec1 hrec1 => ?_) 1000 _ _
  intro x2 x3
  refine j_iload_n X 3 rfl dX6_whoHasTag_4 rfl ?_
  refine j_bipush X (20 : Int32) dX6_whoHasTag_5 (by rfl) ?_
  refine j_icmp_ge X 32 dX6_whoHasTag_7 (by decide) ?_ ?_
  · refine j_iload_n X 2 rfl dX6_whoHasTag_32 rfl ?_
    exact j_iret X dX6_whoHasTag_33 rfl (fun _ h => h)
  · refine j_iload_n X 2 rfl dX6_whoHasTag_10 rfl ?_
    refine j_iload_n X 3 rfl dX6_whoHasTag_11 rfl ?_
    refine j_aload_n X 0 rfl dX6_whoHasTag_12 rfl ?_
    refine g_getf X 1 kf_1 cf_X6 (by decide) fl_X6_16 dX6_whoHasTag_13 rfl rfl ?_
    refine j_iload_n X 3 rfl dX6_whoHasTag_16 rfl ?_
    refine g_iald X 20 kf_23 (by decide) dX6_whoHasTag_17 (fun h13 => ?_)
    refine j_iload_n X 1 rfl dX6_whoHasTag_18 rfl ?_
    refine j_call0SN X 0 0 (c_X10_hasBit X.tr (memG 0 358 (kD κ) (kB κ) S X9) z (S 23 x3.toNatClampNeg) p1) me_X10_hasBit mn_X6_24 st_X10_hasBit dX6_whoHasTag_19 (rest := [.int x3, .int x2]) rfl rfl (by decide) (by decide) (Nat.le_of_ble_eq_true rfl) (fun v4 u12 M11 hM10 => ?_)
    subst M11
    refine j_st (st1 := [.int v4, .int x3, .int x2]) rfl ?_
    refine j_call0SN X 0 0 (c_X10_withBit X.tr (memG 0 358 (kD κ) (kB κ) S X9) z x2 x3 v4) me_X10_withBit mn_X6_20 st_X10_withBit dX6_whoHasTag_22 (rest := []) rfl rfl (by decide) (by decide) (Nat.le_of_ble_eq_true rfl) (fun v5 u9 M8 hM7 => ?_)
    subst M8
    refine j_st (st1 := [.int v5]) rfl ?_
    refine j_istore_n X [(2, .int v5), (0, .ref (kB κ + 1)), (1, .int p1), (3, .int x3)] dX6_whoHasTag_25 rfl (by decide) rfl ?_
    refine j_iincL X 3 (fun x6 => [(3, .int x6), (2, .int v5), (0, .ref (kB κ + 1)), (1, .int p1)]) dX6_whoHasTag_26 rfl (by rfl) (by decide) (fun _ => rfl) (fun x6 => ?_)
    refine j_goto X 4 dX6_whoHasTag_29 (by decide) ?_
    refine j_lv [2, 3, 1, 0] rfl ?_
    exact hrec1 v5 x6
def f_X2_whoIsIn (S : jS) (p1 : Int32) (a2 : Nat) : Option (jR Unit) := joinK (fun (x4 : Int32) => some (0, x4, ())) (fun k1 => joinK (fun (_ : Unit) => k1 (0 : Int32)) (fun k2 => (if p1 < (0 : Int32) then k2 () else (if (6 : Int32) ≤ p1 then k2 () else chk (inb p1 6) (k1 (S a2 p1.toNatClampNeg))))))
abbrev rm_X2_whoIsIn : Room := { frames := 0, cells := 0, slots := 0, locals := 0 }
set_option maxHeartbeats 4000000 in
set_option maxRecDepth 100000 in
theorem c_X2_whoIsIn {l : Launch} {D : va_G} {B t0 : Nat} (hl9 : l.stackTraces = false) (S : jS) (X9 : jMem) (z : Nat → Prop) (p1 : Int32) (a2 : Nat) (ha2 : kIn 0 358 a2 1006) : jCf l D B t0 yX2_whoIsIn cX2_whoIsIn 3 (some .int) rm_X2_whoIsIn [.ref (B + 33), .int p1, .ref (B + a2)] (memG 0 358 D B S X9) z (f_X2_whoIsIn S p1 a2) rvI (fun (S9 : Unit) M9 => M9 = memG 0 358 D B S X9) z := by
  refine jC_of hl9 (me_X2_whoIsIn).1 [(0, .ref (B + 33)), (1, .int p1), (2, .ref (B + a2))] ⟨by decide +kernel, Nat.le_of_ble_eq_true rfl⟩ rfl (fun κ hl hD hB hT X htab hin => ?_)
  subst hl hD hB hT
  have X : jX κ RX2 cX2_whoIsIn 3 (some .int) := X
  unfold f_X2_whoIsIn
  refine j_iload_n X 1 rfl dX2_whoIsIn_0 rfl ?_
  refine j_join (fun k1 => ∀ (x4 : Int32), J κ 3 rm_X2_whoIsIn (jQf κ rm_X2_whoIsIn rvI (fun (S9 : Unit) M9 => M9 = memG 0 358 (kD κ) (kB κ) S X9) z) (k1 x4) (memG 0 358 (kD κ) (kB κ) S X9) z 0 0 [] 17 [.int x4]) ?_ (fun k1 hk1 => ?_)
  · intro x4
    exact j_iret X dX2_whoIsIn_17 rfl (fun _ h => h)
  · refine j_join (fun k2 => ∀ (_ : Unit), J κ 3 rm_X2_whoIsIn (jQf κ rm_X2_whoIsIn rvI (fun (S9 : Unit) M9 => M9 = memG 0 358 (kD κ) (kB κ) S X9) z) (k2 ()) (memG 0 358 (kD κ) (kB κ) S X9) z 0 0 [] 16 []) ?_ (fun k2 hk2 => ?_)
    · intro _
      refine j_iconst X (0 : Int32) dX2_whoIsIn_16 (by rfl) ?_
      exact hk1 (0 : Int32)
    · refine j_if_lt X 16 dX2_whoIsIn_1 (by decide) ?_ ?_
      · refine j_lv [] rfl ?_
        exact hk2 ()
      · refine j_iload_n X 1 rfl dX2_whoIsIn_4 rfl ?_
        refine j_bipush X (6 : Int32) dX2_whoIsIn_5 (by rfl) ?_
        refine j_icmp_ge X 16 dX2_whoIsIn_7 (by decide) ?_ ?_
        · refine j_lv [] rfl ?_
          exact hk2 ()
        · refine j_aload_n X 2 rfl dX2_whoIsIn_10 rfl ?_
          refine j_iload_n X 1 rfl dX2_whoIsIn_11 rfl ?_
          refine g_iald X 6 ha2 (by decide) dX2_whoIsIn_12 (fun h3 => ?_)
          refine j_goto X 17 dX2_whoIsIn_13 (by decide) ?_
          refine j_lv [] rfl ?_
          exact hk1 (S a2 p1.toNatClampNeg)
def f_X2_readSign (S : jS) (b1 : Nat) (p2 : Int32) (a4 : Nat) : Option (jR jS) := jbin0 (f_X8_signAt S b1 p2) (fun v1 _ => joinK (fun (S100 : jS) => some (0, (0 : Int32), S100)) (fun k2 => (if v1 = (33 : Int32) then chk (inb (S 33 3) 9) (chk (inb (S 33 3) 9) (letE (jset S 36 (S 33 3).toNatClampNeg (((S 36 (S 33 3).toNatClampNeg) ^^^ (1048575 : Int32)))) fun S3 => k2 S3)) else (if v1 = (40 : Int32) then (if (8 : Int32) ≤ (S 33 3) then k2 S else letE (jset S 33 3 (((S 33 3) + (1 : Int32)))) fun S6 => jbin0 (f_X2_beginExpression S6) (fun _ S7 => k2 S7)) else (if v1 = (41 : Int32) then (if (S 33 3) ≤ (0 : Int32) then k2 S else letE (jset S 33 3 (((S 33 3) - (1 : Int32)))) fun S11 => chk (inb (((S11 33 3) + (1 : Int32))) 9) (chk (inb (((S11 33 3) + (1 : Int32))) 9) (jbin0 (f_X2_addFactor S11 (((S11 34 (((S11 33 3) + (1 : Int32))).toNatClampNeg) ||| (S11 35 (((S11 33 3) + (1 : Int32))).toNatClampNeg)))) (fun _ S12 => k2 S12)))) else (if v1 = (42 : Int32) then jbin0 (f_X2_addFactor S (1048575 : Int32)) (fun _ S18 => k2 S18) else (if v1 = (64 : Int32) then jbin0 (f_X8_digitAt S b1 ((p2 + (1 : Int32)))) (fun v22 _ => jbin0 (f_X2_whoIsIn S v22 a4) (fun v23 _ => jbin0 (f_X2_addFactor S v23) (fun _ S24 => k2 S24))) else (if v1 = (97 : Int32) then jbin0 (f_X8_signAt S b1 ((p2 + (1 : Int32)))) (fun v34 _ => jbin0 (f_X8_numberAt S b1 ((p2 + (2 : Int32)))) (fun v35 _ => jbin0 (f_X6_whoCompares S (1 : Int32) v34 v35) (fun v36 _ => jbin0 (f_X2_addFactor S v36) (fun _ S37 => k2 S37)))) else (if v1 = (108 : Int32) then jbin0 (f_X8_signAt S b1 ((p2 + (1 : Int32)))) (fun v50 _ => jbin0 (f_X8_numberAt S b1 ((p2 + (2 : Int32)))) (fun v51 _ => jbin0 (f_X6_whoCompares S (0 : Int32) v50 v51) (fun v52 _ => jbin0 (f_X2_addFactor S v52) (fun _ S53 => k2 S53)))) else (if v1 = (112 : Int32) then jbin0 (f_X8_signAt S b1 ((p2 + (1 : Int32)))) (fun v66 _ => jbin0 (f_X8_numberAt S b1 ((p2 + (2 : Int32)))) (fun v67 _ => jbin0 (f_X6_whoCompares S (2 : Int32) v66 v67) (fun v68 _ => jbin0 (f_X2_addFactor S v68) (fun _ S69 => k2 S69)))) else (if v1 = (116 : Int32) then jbin0 (f_X8_digitAt S b1 ((p2 + (1 : Int32)))) (fun v82 _ => jbin0 (f_X6_whoHasTag S v82) (fun v83 _ => jbin0 (f_X2_addFactor S v83) (fun _ S84 => k2 S84))) else (if v1 = (124 : Int32) then chk (inb (S 33 3) 9) (chk (inb (S 33 3) 9) (chk (inb (S 33 3) 9) (letE (jset S 34 (S 33 3).toNatClampNeg (((S 34 (S 33 3).toNatClampNeg) ||| (S 35 (S 33 3).toNatClampNeg)))) fun S94 => chk (inb (S94 33 3) 9) (letE (jset S94 35 (S94 33 3).toNatClampNeg (1048575 : Int32)) fun S95 => k2 S95)))) else k2 S))))))))))))
abbrev rm_X2_readSign : Room := { frames := 3, cells := 0, slots := 0, locals := 66 }
set_option maxHeartbeats 4000000 in
set_option maxRecDepth 100000 in
theorem c_X2_readSign {l : Launch} {D : va_G} {B t0 : Nat} (hl9 : l.stackTraces = false) (S : jS) (X9 : jMem) (z : Nat → Prop) (b1 : Nat) (hb1 : isText b1) (p2 : Int32) (a4 : Nat) (ha4 : kIn 0 358 a4 1006) : jCf l D B t0 yX2_readSign cX2_readSign 5 none rm_X2_readSign [.ref (B + 33), .ref (B + b1), .int p2, .ref (B + 1), .ref (B + a4)] (memG 0 358 D B S X9) z (f_X2_readSign S b1 p2 a4) rvV (fun S9 M9 => M9 = memG 0 358 D B S9 X9) z := by
  refine jC_of hl9 (me_X2_readSign).1 [(0, .ref (B + 33)), (1, .ref (B + b1)), (2, .int p2), (3, .ref (B + 1)), (4, .ref (B + a4))] ⟨by decide +kernel, Nat.le_of_ble_eq_true rfl⟩ rfl (fun κ hl hD hB hT X htab hin => ?_)
  subst hl hD hB hT
  have X : jX κ RX2 cX2_readSign 5 none := X
  unfold f_X2_readSign
  refine j_aload_n X 1 rfl dX2_readSign_0 rfl ?_
  refine j_iload_n X 2 rfl dX2_readSign_1 rfl ?_
  refine j_call0V X 0 0 (c_X8_signAt X.tr S X9 z b1 hb1 p2) me_X8_signAt ml_X2_37 iv_X8_signAt cf_X8 dX2_readSign_2 (memG_at (kText hb1).1) (rest := []) rfl rfl (by decide) (by decide) (Nat.le_of_ble_eq_true rfl) (fun v1 u103 M102 hM101 => ?_)
  subst M102
  refine j_st (st1 := [.int v1]) rfl ?_
  refine j_join (fun k2 => ∀ (S100 : jS), J κ 5 rm_X2_readSign (jQf κ rm_X2_readSign rvV (fun S9 M9 => M9 = memG 0 358 (kD κ) (kB κ) S9 X9) z) (k2 S100) (memG 0 358 (kD κ) (kB κ) S100 X9) z 0 0 [] 346 []) ?_ (fun k2 hk2 => ?_)
  · intro S100
    exact j_vret X dX2_readSign_346 rfl (fun _ h => h)
  · refine j_ite (fun hc5_0 => ?_) (fun hc5_0 => ?_)
    · refine j_lookup (off := 91) X 96 dX2_readSign_5 rfl (by first | (rw [hc5_0]; done) | (rw [hc5_0]; rfl)) (by decide) ?_
      refine j_aload_n X 0 rfl dX2_readSign_96 rfl ?_
      refine g_getf X 2 kf_33 cf_X2 (by decide) fl_X2_18 dX2_readSign_97 rfl rfl ?_
      refine j_aload_n X 0 rfl dX2_readSign_100 rfl ?_
      refine g_getf X 3 kf_33 cf_X2 (by decide) fl_X2_27 dX2_readSign_101 rfl rfl ?_
      refine j_dup2 X dX2_readSign_104 rfl rfl ?_
      refine g_iald X 9 kf_36 (by decide) dX2_readSign_105 (fun h5 => ?_)
      refine j_ldc X kc_X2_41 dX2_readSign_106 ?_
      refine j_ixor X dX2_readSign_108 ?_
      refine g_iast X 9 kf_36 (by decide) dX2_readSign_109 (fun h4 S3 => ?_)
      refine j_goto X 346 dX2_readSign_110 (by decide) ?_
      refine j_lv [] rfl ?_
      exact hk2 S3
    · refine j_ite (fun hc5_1 => ?_) (fun hc5_1 => ?_)
      · refine j_lookup (off := 108) X 113 dX2_readSign_5 rfl (by first | (rw [hc5_1]; done) | (rw [hc5_1]; rfl)) (by decide) ?_
        refine j_aload_n X 0 rfl dX2_readSign_113 rfl ?_
        refine g_getf X 3 kf_33 cf_X2 (by decide) fl_X2_27 dX2_readSign_114 rfl rfl ?_
        refine j_bipush X (8 : Int32) dX2_readSign_117 (by rfl) ?_
        refine j_icmp_ge X 346 dX2_readSign_119 (by decide) ?_ ?_
        · refine j_lv [] rfl ?_
          exact hk2 S
        · refine j_aload_n X 0 rfl dX2_readSign_122 rfl ?_
          refine j_dup X dX2_readSign_123 rfl ?_
          refine g_getf X 3 kf_33 cf_X2 (by decide) fl_X2_27 dX2_readSign_124 rfl rfl ?_
          refine j_iconst X (1 : Int32) dX2_readSign_127 (by rfl) ?_
          refine j_iadd X dX2_readSign_128 ?_
          refine g_putf X 3 kf_33 cf_X2 (by decide) fl_X2_27 dX2_readSign_129 rfl rfl rfl rfl (Nat.le_of_ble_eq_true rfl) rfl (fun S6 => ?_)
          refine j_aload_n X 0 rfl dX2_readSign_132 rfl ?_
          refine j_call0V X 0 0 (c_X2_beginExpression X.tr S6 X9 z) me_X2_beginExpression ml_X2_30 iv_X2_beginExpression cf_X2 dX2_readSign_133 (memG_at kf_33) (rest := []) rfl rfl (by decide) (by decide) (Nat.le_of_ble_eq_true rfl) (fun v10 S7 M9 hM8 => ?_)
          subst M9
          refine j_st (st1 := []) rfl ?_
          refine j_goto X 346 dX2_readSign_136 (by decide) ?_
          refine j_lv [] rfl ?_
          exact hk2 S7
      · refine j_ite (fun hc5_2 => ?_) (fun hc5_2 => ?_)
        · refine j_lookup (off := 134) X 139 dX2_readSign_5 rfl (by first | (rw [hc5_2]; done) | (rw [hc5_2]; rfl)) (by decide) ?_
          refine j_aload_n X 0 rfl dX2_readSign_139 rfl ?_
          refine g_getf X 3 kf_33 cf_X2 (by decide) fl_X2_27 dX2_readSign_140 rfl rfl ?_
          refine j_if_le X 346 dX2_readSign_143 (by decide) ?_ ?_
          · refine j_lv [] rfl ?_
            exact hk2 S
          · refine j_aload_n X 0 rfl dX2_readSign_146 rfl ?_
            refine j_dup X dX2_readSign_147 rfl ?_
            refine g_getf X 3 kf_33 cf_X2 (by decide) fl_X2_27 dX2_readSign_148 rfl rfl ?_
            refine j_iconst X (1 : Int32) dX2_readSign_151 (by rfl) ?_
            refine j_isub X dX2_readSign_152 ?_
            refine g_putf X 3 kf_33 cf_X2 (by decide) fl_X2_27 dX2_readSign_153 rfl rfl rfl rfl (Nat.le_of_ble_eq_true rfl) rfl (fun S11 => ?_)
            refine j_aload_n X 0 rfl dX2_readSign_156 rfl ?_
            refine j_aload_n X 0 rfl dX2_readSign_157 rfl ?_
            refine g_getf X 0 kf_33 cf_X2 (by decide) fl_X2_9 dX2_readSign_158 rfl rfl ?_
            refine j_aload_n X 0 rfl dX2_readSign_161 rfl ?_
            refine g_getf X 3 kf_33 cf_X2 (by decide) fl_X2_27 dX2_readSign_162 rfl rfl ?_
            refine j_iconst X (1 : Int32) dX2_readSign_165 (by rfl) ?_
            refine j_iadd X dX2_readSign_166 ?_
            refine g_iald X 9 kf_34 (by decide) dX2_readSign_167 (fun h17 => ?_)
            refine j_aload_n X 0 rfl dX2_readSign_168 rfl ?_
            refine g_getf X 1 kf_33 cf_X2 (by decide) fl_X2_15 dX2_readSign_169 rfl rfl ?_
            refine j_aload_n X 0 rfl dX2_readSign_172 rfl ?_
            refine g_getf X 3 kf_33 cf_X2 (by decide) fl_X2_27 dX2_readSign_173 rfl rfl ?_
            refine j_iconst X (1 : Int32) dX2_readSign_176 (by rfl) ?_
            refine j_iadd X dX2_readSign_177 ?_
            refine g_iald X 9 kf_35 (by decide) dX2_readSign_178 (fun h16 => ?_)
            refine j_ior X dX2_readSign_179 ?_
            refine j_call0V X 0 0 (c_X2_addFactor X.tr S11 X9 z (((S11 34 (((S11 33 3) + (1 : Int32))).toNatClampNeg) ||| (S11 35 (((S11 33 3) + (1 : Int32))).toNatClampNeg)))) me_X2_addFactor ml_X2_42 iv_X2_addFactor cf_X2 dX2_readSign_180 (memG_at kf_33) (rest := []) rfl rfl (by decide) (by decide) (Nat.le_of_ble_eq_true rfl) (fun v15 S12 M14 hM13 => ?_)
            subst M14
            refine j_st (st1 := []) rfl ?_
            refine j_goto X 346 dX2_readSign_183 (by decide) ?_
            refine j_lv [] rfl ?_
            exact hk2 S12
        · refine j_ite (fun hc5_3 => ?_) (fun hc5_3 => ?_)
          · refine j_lookup (off := 216) X 221 dX2_readSign_5 rfl (by first | (rw [hc5_3]; done) | (rw [hc5_3]; rfl)) (by decide) ?_
            refine j_aload_n X 0 rfl dX2_readSign_221 rfl ?_
            refine j_ldc X kc_X2_41 dX2_readSign_222 ?_
            refine j_call0V X 0 0 (c_X2_addFactor X.tr S X9 z (1048575 : Int32)) me_X2_addFactor ml_X2_42 iv_X2_addFactor cf_X2 dX2_readSign_224 (memG_at kf_33) (rest := []) rfl rfl (by decide) (by decide) (Nat.le_of_ble_eq_true rfl) (fun v21 S18 M20 hM19 => ?_)
            subst M20
            refine j_st (st1 := []) rfl ?_
            refine j_goto X 346 dX2_readSign_227 (by decide) ?_
            refine j_lv [] rfl ?_
            exact hk2 S18
          · refine j_ite (fun hc5_4 => ?_) (fun hc5_4 => ?_)
            · refine j_lookup (off := 321) X 326 dX2_readSign_5 rfl (by first | (rw [hc5_4]; done) | (rw [hc5_4]; rfl)) (by decide) ?_
              refine j_aload_n X 0 rfl dX2_readSign_326 rfl ?_
              refine j_aload_n X 0 rfl dX2_readSign_327 rfl ?_
              refine j_aload_n X 1 rfl dX2_readSign_328 rfl ?_
              refine j_iload_n X 2 rfl dX2_readSign_329 rfl ?_
              refine j_iconst X (1 : Int32) dX2_readSign_330 (by rfl) ?_
              refine j_iadd X dX2_readSign_331 ?_
              refine j_call0V X 0 0 (c_X8_digitAt X.tr S X9 z b1 hb1 ((p2 + (1 : Int32)))) me_X8_digitAt ml_X2_55 iv_X8_digitAt cf_X8 dX2_readSign_332 (memG_at (kText hb1).1) (rest := [.ref (kB κ + 33), .ref (kB κ + 33)]) rfl rfl (by decide) (by decide) (Nat.le_of_ble_eq_true rfl) (fun v22 u33 M32 hM31 => ?_)
              subst M32
              refine j_st (st1 := [.int v22, .ref (kB κ + 33), .ref (kB κ + 33)]) rfl ?_
              refine j_aload X 4 rfl dX2_readSign_335 ?_
              refine j_call0V X 0 0 (c_X2_whoIsIn X.tr S X9 z v22 a4 ha4) me_X2_whoIsIn ml_X2_61 iv_X2_whoIsIn cf_X2 dX2_readSign_337 (memG_at kf_33) (rest := [.ref (kB κ + 33)]) rfl rfl (by decide) (by decide) (Nat.le_of_ble_eq_true rfl) (fun v23 u30 M29 hM28 => ?_)
              subst M29
              refine j_st (st1 := [.int v23, .ref (kB κ + 33)]) rfl ?_
              refine j_call0V X 0 0 (c_X2_addFactor X.tr S X9 z v23) me_X2_addFactor ml_X2_42 iv_X2_addFactor cf_X2 dX2_readSign_340 (memG_at kf_33) (rest := []) rfl rfl (by decide) (by decide) (Nat.le_of_ble_eq_true rfl) (fun v27 S24 M26 hM25 => ?_)
              subst M26
              refine j_st (st1 := []) rfl ?_
              refine j_goto X 346 dX2_readSign_343 (by decide) ?_
              refine j_lv [] rfl ?_
              exact hk2 S24
            · refine j_ite (fun hc5_5 => ?_) (fun hc5_5 => ?_)
              · refine j_lookup (off := 251) X 256 dX2_readSign_5 rfl (by first | (rw [hc5_5]; done) | (rw [hc5_5]; rfl)) (by decide) ?_
                refine j_aload_n X 0 rfl dX2_readSign_256 rfl ?_
                refine j_aload_n X 3 rfl dX2_readSign_257 rfl ?_
                refine j_iconst X (1 : Int32) dX2_readSign_258 (by rfl) ?_
                refine j_aload_n X 1 rfl dX2_readSign_259 rfl ?_
                refine j_iload_n X 2 rfl dX2_readSign_260 rfl ?_
                refine j_iconst X (1 : Int32) dX2_readSign_261 (by rfl) ?_
                refine j_iadd X dX2_readSign_262 ?_
                refine j_call0V X 0 0 (c_X8_signAt X.tr S X9 z b1 hb1 ((p2 + (1 : Int32)))) me_X8_signAt ml_X2_37 iv_X8_signAt cf_X8 dX2_readSign_263 (memG_at (kText hb1).1) (rest := [.int (1 : Int32), .ref (kB κ + 1), .ref (kB κ + 33)]) rfl rfl (by decide) (by decide) (Nat.le_of_ble_eq_true rfl) (fun v34 u49 M48 hM47 => ?_)
                subst M48
                refine j_st (st1 := [.int v34, .int (1 : Int32), .ref (kB κ + 1), .ref (kB κ + 33)]) rfl ?_
                refine j_aload_n X 1 rfl dX2_readSign_266 rfl ?_
                refine j_iload_n X 2 rfl dX2_readSign_267 rfl ?_
                refine j_iconst X (2 : Int32) dX2_readSign_268 (by rfl) ?_
                refine j_iadd X dX2_readSign_269 ?_
                refine j_call0V X 0 0 (c_X8_numberAt X.tr S X9 z b1 hb1 ((p2 + (2 : Int32)))) me_X8_numberAt ml_X2_46 iv_X8_numberAt cf_X8 dX2_readSign_270 (memG_at (kText hb1).1) (rest := [.int v34, .int (1 : Int32), .ref (kB κ + 1), .ref (kB κ + 33)]) rfl rfl (by decide) (by decide) (Nat.le_of_ble_eq_true rfl) (fun v35 u46 M45 hM44 => ?_)
                subst M45
                refine j_st (st1 := [.int v35, .int v34, .int (1 : Int32), .ref (kB κ + 1), .ref (kB κ + 33)]) rfl ?_
                refine j_call0V X 0 0 (c_X6_whoCompares X.tr S X9 z (1 : Int32) v34 v35) me_X6_whoCompares ml_X2_49 iv_X6_whoCompares cf_X6 dX2_readSign_273 (memG_at kf_1) (rest := [.ref (kB κ + 33)]) rfl rfl (by decide) (by decide) (Nat.le_of_ble_eq_true rfl) (fun v36 u43 M42 hM41 => ?_)
                subst M42
                refine j_st (st1 := [.int v36, .ref (kB κ + 33)]) rfl ?_
                refine j_call0V X 0 0 (c_X2_addFactor X.tr S X9 z v36) me_X2_addFactor ml_X2_42 iv_X2_addFactor cf_X2 dX2_readSign_276 (memG_at kf_33) (rest := []) rfl rfl (by decide) (by decide) (Nat.le_of_ble_eq_true rfl) (fun v40 S37 M39 hM38 => ?_)
                subst M39
                refine j_st (st1 := []) rfl ?_
                refine j_goto X 346 dX2_readSign_279 (by decide) ?_
                refine j_lv [] rfl ?_
                exact hk2 S37
              · refine j_ite (fun hc5_6 => ?_) (fun hc5_6 => ?_)
                · refine j_lookup (off := 225) X 230 dX2_readSign_5 rfl (by first | (rw [hc5_6]; done) | (rw [hc5_6]; rfl)) (by decide) ?_
                  refine j_aload_n X 0 rfl dX2_readSign_230 rfl ?_
                  refine j_aload_n X 3 rfl dX2_readSign_231 rfl ?_
                  refine j_iconst X (0 : Int32) dX2_readSign_232 (by rfl) ?_
                  refine j_aload_n X 1 rfl dX2_readSign_233 rfl ?_
                  refine j_iload_n X 2 rfl dX2_readSign_234 rfl ?_
                  refine j_iconst X (1 : Int32) dX2_readSign_235 (by rfl) ?_
                  refine j_iadd X dX2_readSign_236 ?_
                  refine j_call0V X 0 0 (c_X8_signAt X.tr S X9 z b1 hb1 ((p2 + (1 : Int32)))) me_X8_signAt ml_X2_37 iv_X8_signAt cf_X8 dX2_readSign_237 (memG_at (kText hb1).1) (rest := [.int (0 : Int32), .ref (kB κ + 1), .ref (kB κ + 33)]) rfl rfl (by decide) (by decide) (Nat.le_of_ble_eq_true rfl) (fun v50 u65 M64 hM63 => ?_)
                  subst M64
                  refine j_st (st1 := [.int v50, .int (0 : Int32), .ref (kB κ + 1), .ref (kB κ + 33)]) rfl ?_
                  refine j_aload_n X 1 rfl dX2_readSign_240 rfl ?_
                  refine j_iload_n X 2 rfl dX2_readSign_241 rfl ?_
                  refine j_iconst X (2 : Int32) dX2_readSign_242 (by rfl) ?_
                  refine j_iadd X dX2_readSign_243 ?_
                  refine j_call0V X 0 0 (c_X8_numberAt X.tr S X9 z b1 hb1 ((p2 + (2 : Int32)))) me_X8_numberAt ml_X2_46 iv_X8_numberAt cf_X8 dX2_readSign_244 (memG_at (kText hb1).1) (rest := [.int v50, .int (0 : Int32), .ref (kB κ + 1), .ref (kB κ + 33)]) rfl rfl (by decide) (by decide) (Nat.le_of_ble_eq_true rfl) (fun v51 u62 M61 hM60 => ?_)
                  subst M61
                  refine j_st (st1 := [.int v51, .int v50, .int (0 : Int32), .ref (kB κ + 1), .ref (kB κ + 33)]) rfl ?_
                  refine j_call0V X 0 0 (c_X6_whoCompares X.tr S X9 z (0 : Int32) v50 v51) me_X6_whoCompares ml_X2_49 iv_X6_whoCompares cf_X6 dX2_readSign_247 (memG_at kf_1) (rest := [.ref (kB κ + 33)]) rfl rfl (by decide) (by decide) (Nat.le_of_ble_eq_true rfl) (fun v52 u59 M58 hM57 => ?_)
                  subst M58
                  refine j_st (st1 := [.int v52, .ref (kB κ + 33)]) rfl ?_
                  refine j_call0V X 0 0 (c_X2_addFactor X.tr S X9 z v52) me_X2_addFactor ml_X2_42 iv_X2_addFactor cf_X2 dX2_readSign_250 (memG_at kf_33) (rest := []) rfl rfl (by decide) (by decide) (Nat.le_of_ble_eq_true rfl) (fun v56 S53 M55 hM54 => ?_)
                  subst M55
                  refine j_st (st1 := []) rfl ?_
                  refine j_goto X 346 dX2_readSign_253 (by decide) ?_
                  refine j_lv [] rfl ?_
                  exact hk2 S53
                · refine j_ite (fun hc5_7 => ?_) (fun hc5_7 => ?_)
                  · refine j_lookup (off := 277) X 282 dX2_readSign_5 rfl (by first | (rw [hc5_7]; done) | (rw [hc5_7]; rfl)) (by decide) ?_
                    refine j_aload_n X 0 rfl dX2_readSign_282 rfl ?_
                    refine j_aload_n X 3 rfl dX2_readSign_283 rfl ?_
                    refine j_iconst X (2 : Int32) dX2_readSign_284 (by rfl) ?_
                    refine j_aload_n X 1 rfl dX2_readSign_285 rfl ?_
                    refine j_iload_n X 2 rfl dX2_readSign_286 rfl ?_
                    refine j_iconst X (1 : Int32) dX2_readSign_287 (by rfl) ?_
                    refine j_iadd X dX2_readSign_288 ?_
                    refine j_call0V X 0 0 (c_X8_signAt X.tr S X9 z b1 hb1 ((p2 + (1 : Int32)))) me_X8_signAt ml_X2_37 iv_X8_signAt cf_X8 dX2_readSign_289 (memG_at (kText hb1).1) (rest := [.int (2 : Int32), .ref (kB κ + 1), .ref (kB κ + 33)]) rfl rfl (by decide) (by decide) (Nat.le_of_ble_eq_true rfl) (fun v66 u81 M80 hM79 => ?_)
                    subst M80
                    refine j_st (st1 := [.int v66, .int (2 : Int32), .ref (kB κ + 1), .ref (kB κ + 33)]) rfl ?_
                    refine j_aload_n X 1 rfl dX2_readSign_292 rfl ?_
                    refine j_iload_n X 2 rfl dX2_readSign_293 rfl ?_
                    refine j_iconst X (2 : Int32) dX2_readSign_294 (by rfl) ?_
                    refine j_iadd X dX2_readSign_295 ?_
                    refine j_call0V X 0 0 (c_X8_numberAt X.tr S X9 z b1 hb1 ((p2 + (2 : Int32)))) me_X8_numberAt ml_X2_46 iv_X8_numberAt cf_X8 dX2_readSign_296 (memG_at (kText hb1).1) (rest := [.int v66, .int (2 : Int32), .ref (kB κ + 1), .ref (kB κ + 33)]) rfl rfl (by decide) (by decide) (Nat.le_of_ble_eq_true rfl) (fun v67 u78 M77 hM76 => ?_)
                    subst M77
                    refine j_st (st1 := [.int v67, .int v66, .int (2 : Int32), .ref (kB κ + 1), .ref (kB κ + 33)]) rfl ?_
                    refine j_call0V X 0 0 (c_X6_whoCompares X.tr S X9 z (2 : Int32) v66 v67) me_X6_whoCompares ml_X2_49 iv_X6_whoCompares cf_X6 dX2_readSign_299 (memG_at kf_1) (rest := [.ref (kB κ + 33)]) rfl rfl (by decide) (by decide) (Nat.le_of_ble_eq_true rfl) (fun v68 u75 M74 hM73 => ?_)
                    subst M74
                    refine j_st (st1 := [.int v68, .ref (kB κ + 33)]) rfl ?_
                    refine j_call0V X 0 0 (c_X2_addFactor X.tr S X9 z v68) me_X2_addFactor ml_X2_42 iv_X2_addFactor cf_X2 dX2_readSign_302 (memG_at kf_33) (rest := []) rfl rfl (by decide) (by decide) (Nat.le_of_ble_eq_true rfl) (fun v72 S69 M71 hM70 => ?_)
                    subst M71
                    refine j_st (st1 := []) rfl ?_
                    refine j_goto X 346 dX2_readSign_305 (by decide) ?_
                    refine j_lv [] rfl ?_
                    exact hk2 S69
                  · refine j_ite (fun hc5_8 => ?_) (fun hc5_8 => ?_)
                    · refine j_lookup (off := 303) X 308 dX2_readSign_5 rfl (by first | (rw [hc5_8]; done) | (rw [hc5_8]; rfl)) (by decide) ?_
                      refine j_aload_n X 0 rfl dX2_readSign_308 rfl ?_
                      refine j_aload_n X 3 rfl dX2_readSign_309 rfl ?_
                      refine j_aload_n X 1 rfl dX2_readSign_310 rfl ?_
                      refine j_iload_n X 2 rfl dX2_readSign_311 rfl ?_
                      refine j_iconst X (1 : Int32) dX2_readSign_312 (by rfl) ?_
                      refine j_iadd X dX2_readSign_313 ?_
                      refine j_call0V X 0 0 (c_X8_digitAt X.tr S X9 z b1 hb1 ((p2 + (1 : Int32)))) me_X8_digitAt ml_X2_55 iv_X8_digitAt cf_X8 dX2_readSign_314 (memG_at (kText hb1).1) (rest := [.ref (kB κ + 1), .ref (kB κ + 33)]) rfl rfl (by decide) (by decide) (Nat.le_of_ble_eq_true rfl) (fun v82 u93 M92 hM91 => ?_)
                      subst M92
                      refine j_st (st1 := [.int v82, .ref (kB κ + 1), .ref (kB κ + 33)]) rfl ?_
                      refine j_call0V X 0 0 (c_X6_whoHasTag X.tr S X9 z v82) me_X6_whoHasTag ml_X2_58 iv_X6_whoHasTag cf_X6 dX2_readSign_317 (memG_at kf_1) (rest := [.ref (kB κ + 33)]) rfl rfl (by decide) (by decide) (Nat.le_of_ble_eq_true rfl) (fun v83 u90 M89 hM88 => ?_)
                      subst M89
                      refine j_st (st1 := [.int v83, .ref (kB κ + 33)]) rfl ?_
                      refine j_call0V X 0 0 (c_X2_addFactor X.tr S X9 z v83) me_X2_addFactor ml_X2_42 iv_X2_addFactor cf_X2 dX2_readSign_320 (memG_at kf_33) (rest := []) rfl rfl (by decide) (by decide) (Nat.le_of_ble_eq_true rfl) (fun v87 S84 M86 hM85 => ?_)
                      subst M86
                      refine j_st (st1 := []) rfl ?_
                      refine j_goto X 346 dX2_readSign_323 (by decide) ?_
                      refine j_lv [] rfl ?_
                      exact hk2 S84
                    · refine j_ite (fun hc5_9 => ?_) (fun hc5_9 => ?_)
                      · refine j_lookup (off := 181) X 186 dX2_readSign_5 rfl (by first | (rw [hc5_9]; done) | (rw [hc5_9]; rfl)) (by decide) ?_
                        refine j_aload_n X 0 rfl dX2_readSign_186 rfl ?_
                        refine g_getf X 0 kf_33 cf_X2 (by decide) fl_X2_9 dX2_readSign_187 rfl rfl ?_
                        refine j_aload_n X 0 rfl dX2_readSign_190 rfl ?_
                        refine g_getf X 3 kf_33 cf_X2 (by decide) fl_X2_27 dX2_readSign_191 rfl rfl ?_
                        refine j_dup2 X dX2_readSign_194 rfl rfl ?_
                        refine g_iald X 9 kf_34 (by decide) dX2_readSign_195 (fun h99 => ?_)
                        refine j_aload_n X 0 rfl dX2_readSign_196 rfl ?_
                        refine g_getf X 1 kf_33 cf_X2 (by decide) fl_X2_15 dX2_readSign_197 rfl rfl ?_
                        refine j_aload_n X 0 rfl dX2_readSign_200 rfl ?_
                        refine g_getf X 3 kf_33 cf_X2 (by decide) fl_X2_27 dX2_readSign_201 rfl rfl ?_
                        refine g_iald X 9 kf_35 (by decide) dX2_readSign_204 (fun h98 => ?_)
                        refine j_ior X dX2_readSign_205 ?_
                        refine g_iast X 9 kf_34 (by decide) dX2_readSign_206 (fun h97 S94 => ?_)
                        refine j_aload_n X 0 rfl dX2_readSign_207 rfl ?_
                        refine g_getf X 1 kf_33 cf_X2 (by decide) fl_X2_15 dX2_readSign_208 rfl rfl ?_
                        refine j_aload_n X 0 rfl dX2_readSign_211 rfl ?_
                        refine g_getf X 3 kf_33 cf_X2 (by decide) fl_X2_27 dX2_readSign_212 rfl rfl ?_
                        refine j_ldc X kc_X2_41 dX2_readSign_215 ?_
                        refine g_iast X 9 kf_35 (by decide) dX2_readSign_217 (fun h96 S95 => ?_)
                        refine j_goto X 346 dX2_readSign_218 (by decide) ?_
                        refine j_lv [] rfl ?_
                        exact hk2 S95
                      · refine j_lookup (off := 341) X 346 dX2_readSign_5 rfl ((lv_osw hc5_0 rfl).trans ((lv_osw hc5_1 rfl).trans ((lv_osw hc5_2 rfl).trans ((lv_osw hc5_3 rfl).trans ((lv_osw hc5_4 rfl).trans ((lv_osw hc5_5 rfl).trans ((lv_osw hc5_6 rfl).trans ((lv_osw hc5_7 rfl).trans ((lv_osw hc5_8 rfl).trans ((lv_osw hc5_9 rfl).trans (rfl))))))))))) (by decide) ?_
                        refine j_lv [] rfl ?_
                        exact hk2 S
def f_X2_whoMeets (S : jS) (b1 : Nat) (a3 : Nat) : Option (jR jS) := (if (S b1 1) = (0 : Int32) then some (0, (0 : Int32), S) else letE (jset S 33 3 (0 : Int32)) fun S1 => jbin0 (f_X2_beginExpression S1) (fun _ S2 => loopK (fun (rec3 : jS → Int32 → Option (jR jS)) (S4 : jS) (x5 : Int32) => (if (S4 b1 1) ≤ x5 then chk (inb (0 : Int32) 9) (chk (inb (0 : Int32) 9) (some (0, ((S4 34 (0 : Int32).toNatClampNeg) ||| (S4 35 (0 : Int32).toNatClampNeg)), S4))) else jbin0 (f_X2_readSign S4 b1 x5 a3) (fun _ S8 => letE (x5 + (1 : Int32)) fun x9 => rec3 S8 x9))) (fun _ _ => none) 1000 S2 (0 : Int32)))
abbrev rm_X2_whoMeets : Room := { frames := 4, cells := 0, slots := 0, locals := 90 }
set_option maxHeartbeats 4000000 in
set_option maxRecDepth 100000 in
theorem c_X2_whoMeets {l : Launch} {D : va_G} {B t0 : Nat} (hl9 : l.stackTraces = false) (S : jS) (X9 : jMem) (z : Nat → Prop) (b1 : Nat) (hb1 : isText b1) (a3 : Nat) (ha3 : kIn 0 358 a3 1006) : jCf l D B t0 yX2_whoMeets cX2_whoMeets 5 (some .int) rm_X2_whoMeets [.ref (B + 33), .ref (B + b1), .ref (B + 1), .ref (B + a3)] (memG 0 358 D B S X9) z (f_X2_whoMeets S b1 a3) rvI (fun S9 M9 => M9 = memG 0 358 D B S9 X9) z := by
  refine jC_of hl9 (me_X2_whoMeets).1 [(0, .ref (B + 33)), (1, .ref (B + b1)), (2, .ref (B + 1)), (3, .ref (B + a3))] ⟨by decide +kernel, Nat.le_of_ble_eq_true rfl⟩ rfl (fun κ hl hD hB hT X htab hin => ?_)
  subst hl hD hB hT
  have X : jX κ RX2 cX2_whoMeets 5 (some .int) := X
  unfold f_X2_whoMeets
  refine j_aload_n X 1 rfl dX2_whoMeets_0 rfl ?_
  refine g_getN X 1 (kText hb1).1 cf_X8 (by decide) fn_X2_21 dX2_whoMeets_1 rfl rfl ?_
  refine j_if_ne X 9 dX2_whoMeets_4 (by decide) ?_ ?_
  · refine j_iconst X (0 : Int32) dX2_whoMeets_7 (by rfl) ?_
    exact j_iret X dX2_whoMeets_8 rfl (fun _ h => h)
  · refine j_aload_n X 0 rfl dX2_whoMeets_9 rfl ?_
    refine j_iconst X (0 : Int32) dX2_whoMeets_10 (by rfl) ?_
    refine g_putf X 3 kf_33 cf_X2 (by decide) fl_X2_27 dX2_whoMeets_11 rfl rfl rfl rfl (Nat.le_of_ble_eq_true rfl) rfl (fun S1 => ?_)
    refine j_aload_n X 0 rfl dX2_whoMeets_14 rfl ?_
    refine j_call0V X 0 0 (c_X2_beginExpression X.tr S1 X9 z) me_X2_beginExpression ml_X2_30 iv_X2_beginExpression cf_X2 dX2_whoMeets_15 (memG_at kf_33) (rest := []) rfl rfl (by decide) (by decide) (Nat.le_of_ble_eq_true rfl) (fun v15 S2 M14 hM13 => ?_)
    subst M14
    refine j_st (st1 := []) rfl ?_
    refine j_iconst X (0 : Int32) dX2_whoMeets_18 (by rfl) ?_
    refine j_istore X [(4, .int (0 : Int32)), (0, .ref (kB κ + 33)), (1, .ref (kB κ + b1)), (2, .ref (kB κ + 1)), (3, .ref (kB κ + a3))] dX2_whoMeets_19 (by decide) rfl ?_
    refine j_lv [1, 2, 3, 4, 0] rfl ?_
    refine j_loop (fun (k : jS → Int32 → Option (jR jS)) => ∀ (S4 : jS) (x5 : Int32), J κ 5 rm_X2_whoMeets (jQf κ rm_X2_whoMeets rvI (fun S9 M9 => M9 = memG 0 358 (kD κ) (kB κ) S9 X9) z) (k S4 x5) (memG 0 358 (kD κ) (kB κ) S4 X9) z 0 0 [(0, .ref (kB κ + 33)), (1, .ref (kB κ + b1)), (2, .ref (kB κ + 1)), (3, .ref (kB κ + a3)), (4, .int x5)] 21 []) (fun _ _ => j_none) (fun rec3 hrec3 => ?_) 1000 _ _
    intro S4 x5
    refine j_iload X 4 rfl dX2_whoMeets_21 ?_
    refine j_aload_n X 1 rfl dX2_whoMeets_23 rfl ?_
    refine g_getN X 1 (kText hb1).1 cf_X8 (by decide) fn_X2_21 dX2_whoMeets_24 rfl rfl ?_
    refine j_icmp_ge X 45 dX2_whoMeets_27 (by decide) ?_ ?_
    · refine j_aload_n X 0 rfl dX2_whoMeets_45 rfl ?_
      refine g_getf X 0 kf_33 cf_X2 (by decide) fl_X2_9 dX2_whoMeets_46 rfl rfl ?_
      refine j_iconst X (0 : Int32) dX2_whoMeets_49 (by rfl) ?_
      refine g_iald X 9 kf_34 (by decide) dX2_whoMeets_50 (fun h7 => ?_)
      refine j_aload_n X 0 rfl dX2_whoMeets_51 rfl ?_
      refine g_getf X 1 kf_33 cf_X2 (by decide) fl_X2_15 dX2_whoMeets_52 rfl rfl ?_
      refine j_iconst X (0 : Int32) dX2_whoMeets_55 (by rfl) ?_
      refine g_iald X 9 kf_35 (by decide) dX2_whoMeets_56 (fun h6 => ?_)
      refine j_ior X dX2_whoMeets_57 ?_
      exact j_iret X dX2_whoMeets_58 rfl (fun _ h => h)
    · refine j_aload_n X 0 rfl dX2_whoMeets_30 rfl ?_
      refine j_aload_n X 1 rfl dX2_whoMeets_31 rfl ?_
      refine j_iload X 4 rfl dX2_whoMeets_32 ?_
      refine j_aload_n X 2 rfl dX2_whoMeets_34 rfl ?_
      refine j_aload_n X 3 rfl dX2_whoMeets_35 rfl ?_
      refine j_call0V X 0 0 (c_X2_readSign X.tr S4 X9 z b1 hb1 x5 a3 ha3) me_X2_readSign ml_X2_33 iv_X2_readSign cf_X2 dX2_whoMeets_36 (memG_at kf_33) (rest := []) rfl rfl (by decide) (by decide) (Nat.le_of_ble_eq_true rfl) (fun v12 S8 M11 hM10 => ?_)
      subst M11
      refine j_st (st1 := []) rfl ?_
      refine j_iincL X 4 (fun x9 => [(4, .int x9), (0, .ref (kB κ + 33)), (1, .ref (kB κ + b1)), (2, .ref (kB κ + 1)), (3, .ref (kB κ + a3))]) dX2_whoMeets_39 rfl (by rfl) (by decide) (fun _ => rfl) (fun x9 => ?_)
      refine j_goto X 21 dX2_whoMeets_42 (by decide) ?_
      refine j_lv [1, 2, 3, 4, 0] rfl ?_
      exact hrec3 S8 x9
def f_X0_settle (S : jS) : Option (jR jS) := loopK (fun (rec1 : jS → Int32 → Option (jR jS)) (S2 : jS) (x3 : Int32) => (if (6 : Int32) ≤ x3 then some (0, (0 : Int32), S2) else chk (inb x3 6) (letE ((S2 (27 + 2) x3.toNatClampNeg)) fun x4 => chk (inb x4 6) (jbin0 (f_X2_whoMeets S2 (39 + 4 * x4.toNatClampNeg) 30) (fun v6 S7 => chk (inb x4 6) (letE (jset S7 30 x4.toNatClampNeg v6) fun S8 => letE (x3 + (1 : Int32)) fun x9 => rec1 S8 x9)))))) (fun _ _ => none) 1000 S (0 : Int32)
abbrev rm_X0_settle : Room := { frames := 5, cells := 0, slots := 0, locals := 114 }
set_option maxHeartbeats 4000000 in
set_option maxRecDepth 100000 in
theorem c_X0_settle {l : Launch} {D : va_G} {B t0 : Nat} (hl9 : l.stackTraces = false) (S : jS) (X9 : jMem) (z : Nat → Prop) : jCf l D B t0 yX0_settle cX0_settle 4 none rm_X0_settle [.ref (B + 24), .ref (B + 1)] (memG 0 358 D B S X9) z (f_X0_settle S) rvV (fun S9 M9 => M9 = memG 0 358 D B S9 X9) z := by
  refine jC_of hl9 (me_X0_settle).1 [(0, .ref (B + 24)), (1, .ref (B + 1))] ⟨by decide +kernel, Nat.le_of_ble_eq_true rfl⟩ rfl (fun κ hl hD hB hT X htab hin => ?_)
  subst hl hD hB hT
  have X : jX κ RX0 cX0_settle 4 none := X
  unfold f_X0_settle
  refine j_iconst X (0 : Int32) dX0_settle_0 (by rfl) ?_
  refine j_istore_n X [(2, .int (0 : Int32)), (0, .ref (kB κ + 24)), (1, .ref (kB κ + 1))] dX0_settle_1 rfl (by decide) rfl ?_
  refine j_lv [1, 2, 0] rfl ?_
  refine j_loop (fun (k : jS → Int32 → Option (jR jS)) => ∀ (S2 : jS) (x3 : Int32), J κ 4 rm_X0_settle (jQf κ rm_X0_settle rvV (fun S9 M9 => M9 = memG 0 358 (kD κ) (kB κ) S9 X9) z) (k S2 x3) (memG 0 358 (kD κ) (kB κ) S2 X9) z 0 0 [(0, .ref (kB κ + 24)), (1, .ref (kB κ + 1)), (2, .int x3)] 2 []) (fun _ _ => j_none) (fun rec1 hrec1 => ?_) 1000 _ _
  intro S2 x3
  refine j_iload_n X 2 rfl dX0_settle_2 rfl ?_
  refine j_bipush X (6 : Int32) dX0_settle_3 (by rfl) ?_
  refine j_icmp_ge X 48 dX0_settle_5 (by decide) ?_ ?_
  · exact j_vret X dX0_settle_48 rfl (fun _ h => h)
  · refine j_aload_n X 0 rfl dX0_settle_8 rfl ?_
    refine g_getf X 2 kf_24 cf_X0 (by decide) fl_X0_25 dX0_settle_9 rfl rfl ?_
    refine g_getN X 1 (kGraph isGraph_6).1 cf_X4 (by decide) fn_X0_67 dX0_settle_12 rfl rfl ?_
    refine j_iload_n X 2 rfl dX0_settle_15 rfl ?_
    refine g_iald X 6 (kGraph isGraph_6).2.2 (by decide) dX0_settle_16 (fun h13 => ?_)
    refine j_letE (fun x4 => ?_)
    refine j_istore_n X [(3, .int x4), (0, .ref (kB κ + 24)), (1, .ref (kB κ + 1)), (2, .int x3)] dX0_settle_17 rfl (by decide) rfl ?_
    refine j_aload_n X 1 rfl dX0_settle_18 rfl ?_
    refine g_getf X 3 kf_24 cf_X0 (by decide) fl_X0_29 dX0_settle_19 rfl rfl ?_
    refine j_iload_n X 0 rfl dX0_settle_22 rfl ?_
    refine j_aload_n X 1 rfl dX0_settle_23 rfl ?_
    refine g_getf X 6 kf_24 cf_X0 (by decide) fl_X0_46 dX0_settle_24 rfl rfl ?_
    refine j_aload_n X 1 rfl dX0_settle_27 rfl ?_
    refine g_getf X 1 kf_24 cf_X0 (by decide) fl_X0_17 dX0_settle_28 rfl rfl ?_
    refine j_iload_n X 0 rfl dX0_settle_31 rfl ?_
    refine g_aald X 5 6 kf_26 rfl rfl dX0_settle_32 rfl rfl (fun h5 => ?_)
    refine j_aload_n X 2 rfl dX0_settle_33 rfl ?_
    refine j_aload_n X 1 rfl dX0_settle_34 rfl ?_
    refine g_getf X 3 kf_24 cf_X0 (by decide) fl_X0_29 dX0_settle_35 rfl rfl ?_
    refine j_call0V X 0 0 (c_X2_whoMeets X.tr S2 X9 z (39 + 4 * x4.toNatClampNeg) (isText_r h5) 30 kf_30) me_X2_whoMeets ml_X0_70 iv_X2_whoMeets cf_X2 dX0_settle_38 (memG_at kf_33) (rest := [.int x4, .ref (kB κ + 30)]) rfl rfl (by decide) (by decide) (Nat.le_of_ble_eq_true rfl) (fun v6 S7 M12 hM11 => ?_)
    subst M12
    refine j_st (st1 := [.int v6, .int x4, .ref (kB κ + 30)]) rfl ?_
    refine g_iast X 6 kf_30 (by decide) dX0_settle_41 (fun h10 S8 => ?_)
    refine j_iincL X 3 (fun x9 => [(2, .int x9), (3, .int x4), (0, .ref (kB κ + 24)), (1, .ref (kB κ + 1))]) dX0_settle_42 rfl (by rfl) (by decide) (fun _ => rfl) (fun x9 => ?_)
    refine j_goto X 2 dX0_settle_45 (by decide) ?_
    refine j_lv [2, 3, 0] rfl ?_
    exact hrec1 S8 x9
def f_X0_tryDraft (S : jS) (p1 : Int32) : Option (jR jS) := chk (inb p1 6) (jbin0 (f_X2_whoMeets S (37 + 4 * p1.toNatClampNeg) 30) (fun v2 S3 => chk (inb p1 6) (letE (jset S3 31 p1.toNatClampNeg v2) fun S4 => loopK (fun (rec5 : jS → Int32 → Option (jR jS)) (S6 : jS) (x7 : Int32) => (if (6 : Int32) ≤ x7 then some (0, (0 : Int32), S6) else chk (inb x7 6) (letE ((S6 (27 + 2) x7.toNatClampNeg)) fun x8 => joinK (fun (S17 : jS) => letE (x7 + (1 : Int32)) fun x18 => rec5 S17 x18) (fun k9 => (if x8 = p1 then k9 S6 else chk (inb x8 6) (jbin0 (f_X2_whoMeets S6 (39 + 4 * x8.toNatClampNeg) 31) (fun v11 S12 => chk (inb x8 6) (letE (jset S12 31 x8.toNatClampNeg v11) fun S13 => k9 S13)))))))) (fun _ _ => none) 1000 S4 (0 : Int32))))
abbrev rm_X0_tryDraft : Room := { frames := 5, cells := 0, slots := 0, locals := 114 }
set_option maxHeartbeats 4000000 in
set_option maxRecDepth 100000 in
theorem c_X0_tryDraft {l : Launch} {D : va_G} {B t0 : Nat} (hl9 : l.stackTraces = false) (S : jS) (X9 : jMem) (z : Nat → Prop) (p1 : Int32) : jCf l D B t0 yX0_tryDraft cX0_tryDraft 5 none rm_X0_tryDraft [.ref (B + 24), .int p1, .ref (B + 1)] (memG 0 358 D B S X9) z (f_X0_tryDraft S p1) rvV (fun S9 M9 => M9 = memG 0 358 D B S9 X9) z := by
  refine jC_of hl9 (me_X0_tryDraft).1 [(0, .ref (B + 24)), (1, .int p1), (2, .ref (B + 1))] ⟨by decide +kernel, Nat.le_of_ble_eq_true rfl⟩ rfl (fun κ hl hD hB hT X htab hin => ?_)
  subst hl hD hB hT
  have X : jX κ RX0 cX0_tryDraft 5 none := X
  unfold f_X0_tryDraft
  refine j_aload_n X 0 rfl dX0_tryDraft_0 rfl ?_
  refine g_getf X 4 kf_24 cf_X0 (by decide) fl_X0_33 dX0_tryDraft_1 rfl rfl ?_
  refine j_iload_n X 1 rfl dX0_tryDraft_4 rfl ?_
  refine j_aload_n X 0 rfl dX0_tryDraft_5 rfl ?_
  refine g_getf X 6 kf_24 cf_X0 (by decide) fl_X0_46 dX0_tryDraft_6 rfl rfl ?_
  refine j_aload_n X 0 rfl dX0_tryDraft_9 rfl ?_
  refine g_getf X 0 kf_24 cf_X0 (by decide) fl_X0_11 dX0_tryDraft_10 rfl rfl ?_
  refine j_iload_n X 1 rfl dX0_tryDraft_13 rfl ?_
  refine g_aald X 5 6 kf_25 rfl rfl dX0_tryDraft_14 rfl rfl (fun h1 => ?_)
  refine j_aload_n X 2 rfl dX0_tryDraft_15 rfl ?_
  refine j_aload_n X 0 rfl dX0_tryDraft_16 rfl ?_
  refine g_getf X 3 kf_24 cf_X0 (by decide) fl_X0_29 dX0_tryDraft_17 rfl rfl ?_
  refine j_call0V X 0 0 (c_X2_whoMeets X.tr S X9 z (37 + 4 * p1.toNatClampNeg) (isText_d h1) 30 kf_30) me_X2_whoMeets ml_X0_70 iv_X2_whoMeets cf_X2 dX0_tryDraft_20 (memG_at kf_33) (rest := [.int p1, .ref (kB κ + 31)]) rfl rfl (by decide) (by decide) (Nat.le_of_ble_eq_true rfl) (fun v2 S3 M22 hM21 => ?_)
  subst M22
  refine j_st (st1 := [.int v2, .int p1, .ref (kB κ + 31)]) rfl ?_
  refine g_iast X 6 kf_31 (by decide) dX0_tryDraft_23 (fun h20 S4 => ?_)
  refine j_iconst X (0 : Int32) dX0_tryDraft_24 (by rfl) ?_
  refine j_istore_n X [(3, .int (0 : Int32)), (0, .ref (kB κ + 24)), (1, .int p1), (2, .ref (kB κ + 1))] dX0_tryDraft_25 rfl (by decide) rfl ?_
  refine j_lv [1, 2, 3, 0] rfl ?_
  refine j_loop (fun (k : jS → Int32 → Option (jR jS)) => ∀ (S6 : jS) (x7 : Int32), J κ 5 rm_X0_tryDraft (jQf κ rm_X0_tryDraft rvV (fun S9 M9 => M9 = memG 0 358 (kD κ) (kB κ) S9 X9) z) (k S6 x7) (memG 0 358 (kD κ) (kB κ) S6 X9) z 0 0 [(0, .ref (kB κ + 24)), (1, .int p1), (2, .ref (kB κ + 1)), (3, .int x7)] 26 []) (fun _ _ => j_none) (fun rec5 hrec5 => ?_) 1000 _ _
  intro S6 x7
  refine j_iload_n X 3 rfl dX0_tryDraft_26 rfl ?_
  refine j_bipush X (6 : Int32) dX0_tryDraft_27 (by rfl) ?_
  refine j_icmp_ge X 81 dX0_tryDraft_29 (by decide) ?_ ?_
  · exact j_vret X dX0_tryDraft_81 rfl (fun _ h => h)
  · refine j_aload_n X 0 rfl dX0_tryDraft_32 rfl ?_
    refine g_getf X 2 kf_24 cf_X0 (by decide) fl_X0_25 dX0_tryDraft_33 rfl rfl ?_
    refine g_getN X 1 (kGraph isGraph_6).1 cf_X4 (by decide) fn_X0_67 dX0_tryDraft_36 rfl rfl ?_
    refine j_iload_n X 3 rfl dX0_tryDraft_39 rfl ?_
    refine g_iald X 6 (kGraph isGraph_6).2.2 (by decide) dX0_tryDraft_40 (fun h19 => ?_)
    refine j_letE (fun x8 => ?_)
    refine j_istore X [(4, .int x8), (0, .ref (kB κ + 24)), (1, .int p1), (2, .ref (kB κ + 1)), (3, .int x7)] dX0_tryDraft_41 (by decide) rfl ?_
    refine j_iload X 0 rfl dX0_tryDraft_43 ?_
    refine j_iload_n X 2 rfl dX0_tryDraft_45 rfl ?_
    refine j_join (fun k9 => ∀ (S17 : jS), J κ 5 rm_X0_tryDraft (jQf κ rm_X0_tryDraft rvV (fun S9 M9 => M9 = memG 0 358 (kD κ) (kB κ) S9 X9) z) (k9 S17) (memG 0 358 (kD κ) (kB κ) S17 X9) z 0 0 [(0, .ref (kB κ + 24)), (1, .int p1), (2, .ref (kB κ + 1)), (3, .int x7)] 75 []) ?_ (fun k9 hk9 => ?_)
    · intro S17
      refine j_iincL X 3 (fun x18 => [(3, .int x18), (0, .ref (kB κ + 24)), (1, .int p1), (2, .ref (kB κ + 1))]) dX0_tryDraft_75 rfl (by rfl) (by decide) (fun _ => rfl) (fun x18 => ?_)
      refine j_goto X 26 dX0_tryDraft_78 (by decide) ?_
      refine j_lv [1, 2, 3, 0] rfl ?_
      exact hrec5 S17 x18
    · refine j_icmp_eq X 75 dX0_tryDraft_46 (by decide) ?_ ?_
      · refine j_lv [1, 2, 3, 4] rfl ?_
        exact hk9 S6
      · refine j_aload_n X 1 rfl dX0_tryDraft_49 rfl ?_
        refine g_getf X 4 kf_24 cf_X0 (by decide) fl_X0_33 dX0_tryDraft_50 rfl rfl ?_
        refine j_iload X 0 rfl dX0_tryDraft_53 ?_
        refine j_aload_n X 1 rfl dX0_tryDraft_55 rfl ?_
        refine g_getf X 6 kf_24 cf_X0 (by decide) fl_X0_46 dX0_tryDraft_56 rfl rfl ?_
        refine j_aload_n X 1 rfl dX0_tryDraft_59 rfl ?_
        refine g_getf X 1 kf_24 cf_X0 (by decide) fl_X0_17 dX0_tryDraft_60 rfl rfl ?_
        refine j_iload X 0 rfl dX0_tryDraft_63 ?_
        refine g_aald X 5 6 kf_26 rfl rfl dX0_tryDraft_65 rfl rfl (fun h10 => ?_)
        refine j_aload_n X 3 rfl dX0_tryDraft_66 rfl ?_
        refine j_aload_n X 1 rfl dX0_tryDraft_67 rfl ?_
        refine g_getf X 4 kf_24 cf_X0 (by decide) fl_X0_33 dX0_tryDraft_68 rfl rfl ?_
        refine j_call0V X 0 0 (c_X2_whoMeets X.tr S6 X9 z (39 + 4 * x8.toNatClampNeg) (isText_r h10) 31 kf_31) me_X2_whoMeets ml_X0_70 iv_X2_whoMeets cf_X2 dX0_tryDraft_71 (memG_at kf_33) (rest := [.int x8, .ref (kB κ + 31)]) rfl rfl (by decide) (by decide) (Nat.le_of_ble_eq_true rfl) (fun v11 S12 M16 hM15 => ?_)
        subst M16
        refine j_st (st1 := [.int v11, .int x8, .ref (kB κ + 31)]) rfl ?_
        refine g_iast X 6 kf_31 (by decide) dX0_tryDraft_74 (fun h14 S13 => ?_)
        refine j_lv [1, 2, 3, 4] rfl ?_
        exact hk9 S13
def f_X8_copy (S : jS) (b0 : Nat) (b1 : Nat) : Option (jR jS) := chk (cpOk (S (b1 + 1)) (0 : Int32) (0 : Int32) (60 : Int32) 60 60 .char) (letE (jrow S (b0 + 1) (va_cpy (S (b1 + 1)) (S (b0 + 1)) (0 : Int32).toNatClampNeg (0 : Int32).toNatClampNeg (60 : Int32).toNatClampNeg)) fun S1 => letE (jset S1 b0 1 (S1 b1 1)) fun S2 => some (0, (0 : Int32), S2))
abbrev rm_X8_copy : Room := { frames := 1, cells := 0, slots := 0, locals := 40 }
set_option maxHeartbeats 4000000 in
set_option maxRecDepth 100000 in
theorem c_X8_copy {l : Launch} {D : va_G} {B t0 : Nat} (hl9 : l.stackTraces = false) (S : jS) (X9 : jMem) (z : Nat → Prop) (b0 : Nat) (hb0 : isText b0) (b1 : Nat) (hb1 : isText b1) : jCf l D B t0 yX8_copy cX8_copy 2 none rm_X8_copy [.ref (B + b0), .ref (B + b1)] (memG 0 358 D B S X9) z (f_X8_copy S b0 b1) rvV (fun S9 M9 => M9 = memG 0 358 D B S9 X9) z := by
  refine jC_of hl9 (me_X8_copy).1 [(0, .ref (B + b0)), (1, .ref (B + b1))] ⟨by decide +kernel, Nat.le_of_ble_eq_true rfl⟩ rfl (fun κ hl hD hB hT X htab hin => ?_)
  subst hl hD hB hT
  have X : jX κ RX8 cX8_copy 2 none := X
  unfold f_X8_copy
  refine j_aload_n X 1 rfl dX8_copy_0 rfl ?_
  refine g_getf X 0 (kText hb1).1 cf_X8 (by decide) fl_X8_9 dX8_copy_1 rfl rfl ?_
  refine j_iconst X (0 : Int32) dX8_copy_4 (by rfl) ?_
  refine j_aload_n X 0 rfl dX8_copy_5 rfl ?_
  refine g_getf X 0 (kText hb0).1 cf_X8 (by decide) fl_X8_9 dX8_copy_6 rfl rfl ?_
  refine j_iconst X (0 : Int32) dX8_copy_9 (by rfl) ?_
  refine j_bipush X (60 : Int32) dX8_copy_10 (by rfl) ?_
  refine g_copyC X 60 60 (kText hb1).2 (kText hb0).2 (by decide) ml_X8_26 nt_arraycopy st_arraycopy in_system (by decide +kernel) dX8_copy_12 (fun S1 => ?_)
  refine j_aload_n X 0 rfl dX8_copy_15 rfl ?_
  refine j_aload_n X 1 rfl dX8_copy_16 rfl ?_
  refine g_getf X 1 (kText hb1).1 cf_X8 (by decide) fl_X8_15 dX8_copy_17 rfl rfl ?_
  refine g_putf X 1 (kText hb0).1 cf_X8 (by decide) fl_X8_15 dX8_copy_20 rfl rfl rfl rfl (Nat.le_of_ble_eq_true rfl) rfl (fun S2 => ?_)
  exact j_vret X dX8_copy_23 rfl (fun _ h => h)
def f_J6_bitCount_0f7a4 (p0 : Int32) : Option (jR Unit) := letE ((p0 - (((p0.toUInt32 >>> ((1 : Int32).toUInt32 &&& Int32.toUInt32 31)).toInt32) &&& (1431655765 : Int32)))) fun x1 => letE (((x1 &&& (858993459 : Int32)) + (((x1.toUInt32 >>> ((2 : Int32).toUInt32 &&& Int32.toUInt32 31)).toInt32) &&& (858993459 : Int32)))) fun x2 => letE (((x2 + ((x2.toUInt32 >>> ((4 : Int32).toUInt32 &&& Int32.toUInt32 31)).toInt32)) &&& (252645135 : Int32))) fun x3 => letE ((x3 + ((x3.toUInt32 >>> ((8 : Int32).toUInt32 &&& Int32.toUInt32 31)).toInt32))) fun x4 => letE ((x4 + ((x4.toUInt32 >>> ((16 : Int32).toUInt32 &&& Int32.toUInt32 31)).toInt32))) fun x5 => some (0, (x5 &&& (63 : Int32)), ())
abbrev rm_J6_bitCount_0f7a4 : Room := { frames := 0, cells := 0, slots := 0, locals := 0 }
set_option maxHeartbeats 4000000 in
set_option maxRecDepth 100000 in
theorem c_J6_bitCount_0f7a4 {l : Launch} {D : va_G} {B t0 : Nat} (hl9 : l.stackTraces = false) (M : jMem) (z : Nat → Prop) (p0 : Int32) : jCf l D B t0 yJ6_bitCount_0f7a4 cJ6_bitCount_0f7a4 1 (some .int) rm_J6_bitCount_0f7a4 [.int p0] M z (f_J6_bitCount_0f7a4 p0) rvI (fun (S9 : Unit) M9 => M9 = M) z := by
  refine jC_of hl9 (me_J6_bitCount_0f7a4).1 [(0, .int p0)] ⟨by decide +kernel, Nat.le_of_ble_eq_true rfl⟩ rfl (fun κ hl hD hB hT X htab hin => ?_)
  subst hl hD hB hT
  have X : jX κ RJ6 cJ6_bitCount_0f7a4 1 (some .int) := X
  unfold f_J6_bitCount_0f7a4
  refine j_iload_n X 0 rfl dJ6_bitCount_0f7a4_0 rfl ?_
  refine j_iload_n X 0 rfl dJ6_bitCount_0f7a4_1 rfl ?_
  refine j_iconst X (1 : Int32) dJ6_bitCount_0f7a4_2 (by rfl) ?_
  refine j_iushr X dJ6_bitCount_0f7a4_3 ?_
  refine j_ldcw X kc_J6_265 dJ6_bitCount_0f7a4_4 ?_
  refine j_iand X dJ6_bitCount_0f7a4_7 ?_
  refine j_isub X dJ6_bitCount_0f7a4_8 ?_
  refine j_letE (fun x1 => ?_)
  refine j_istore_n X [(0, .int x1)] dJ6_bitCount_0f7a4_9 rfl (by decide) rfl ?_
  refine j_iload_n X 0 rfl dJ6_bitCount_0f7a4_10 rfl ?_
  refine j_ldcw X kc_J6_266 dJ6_bitCount_0f7a4_11 ?_
  refine j_iand X dJ6_bitCount_0f7a4_14 ?_
  refine j_iload_n X 0 rfl dJ6_bitCount_0f7a4_15 rfl ?_
  refine j_iconst X (2 : Int32) dJ6_bitCount_0f7a4_16 (by rfl) ?_
  refine j_iushr X dJ6_bitCount_0f7a4_17 ?_
  refine j_ldcw X kc_J6_266 dJ6_bitCount_0f7a4_18 ?_
  refine j_iand X dJ6_bitCount_0f7a4_21 ?_
  refine j_iadd X dJ6_bitCount_0f7a4_22 ?_
  refine j_letE (fun x2 => ?_)
  refine j_istore_n X [(0, .int x2)] dJ6_bitCount_0f7a4_23 rfl (by decide) rfl ?_
  refine j_iload_n X 0 rfl dJ6_bitCount_0f7a4_24 rfl ?_
  refine j_iload_n X 0 rfl dJ6_bitCount_0f7a4_25 rfl ?_
  refine j_iconst X (4 : Int32) dJ6_bitCount_0f7a4_26 (by rfl) ?_
  refine j_iushr X dJ6_bitCount_0f7a4_27 ?_
  refine j_iadd X dJ6_bitCount_0f7a4_28 ?_
  refine j_ldcw X kc_J6_267 dJ6_bitCount_0f7a4_29 ?_
  refine j_iand X dJ6_bitCount_0f7a4_32 ?_
  refine j_letE (fun x3 => ?_)
  refine j_istore_n X [(0, .int x3)] dJ6_bitCount_0f7a4_33 rfl (by decide) rfl ?_
  refine j_iload_n X 0 rfl dJ6_bitCount_0f7a4_34 rfl ?_
  refine j_iload_n X 0 rfl dJ6_bitCount_0f7a4_35 rfl ?_
  refine j_bipush X (8 : Int32) dJ6_bitCount_0f7a4_36 (by rfl) ?_
  refine j_iushr X dJ6_bitCount_0f7a4_38 ?_
  refine j_iadd X dJ6_bitCount_0f7a4_39 ?_
  refine j_letE (fun x4 => ?_)
  refine j_istore_n X [(0, .int x4)] dJ6_bitCount_0f7a4_40 rfl (by decide) rfl ?_
  refine j_iload_n X 0 rfl dJ6_bitCount_0f7a4_41 rfl ?_
  refine j_iload_n X 0 rfl dJ6_bitCount_0f7a4_42 rfl ?_
  refine j_bipush X (16 : Int32) dJ6_bitCount_0f7a4_43 (by rfl) ?_
  refine j_iushr X dJ6_bitCount_0f7a4_45 ?_
  refine j_iadd X dJ6_bitCount_0f7a4_46 ?_
  refine j_letE (fun x5 => ?_)
  refine j_istore_n X [(0, .int x5)] dJ6_bitCount_0f7a4_47 rfl (by decide) rfl ?_
  refine j_iload_n X 0 rfl dJ6_bitCount_0f7a4_48 rfl ?_
  refine j_bipush X (63 : Int32) dJ6_bitCount_0f7a4_49 (by rfl) ?_
  refine j_iand X dJ6_bitCount_0f7a4_51 ?_
  exact j_iret X dJ6_bitCount_0f7a4_52 rfl (fun _ h => h)
def f_X4_arrange (S : jS) (b0 n0 : Nat) : Option (jR jS) := loopK (fun (rec1 : jS → Int32 → Int32 → Option (jR jS)) (S2 : jS) (x3 : Int32) (x4 : Int32) => (if (Int32.ofNat n0) ≤ x4 then some (0, (0 : Int32), S2) else loopK (fun (rec5 : jS → Int32 → Int32 → Option (jR jS)) (S6 : jS) (x7 : Int32) (x8 : Int32) => (if (Int32.ofNat n0) ≤ x8 then letE (x4 + (1 : Int32)) fun x9 => rec1 S6 x7 x9 else jbin0 (f_X10_hasBit x7 x8) (fun v10 _ => joinK (fun (S23 : jS) (x24 : Int32) => letE (x8 + (1 : Int32)) fun x25 => rec5 S23 x24 x25) (fun k11 => (if v10 = (0 : Int32) then chk (inb x8 n0) ((if ((S6 (b0 + 1) x8.toNatClampNeg) &&& (x7 ^^^ (-1 : Int32))) = (0 : Int32) then jbin0 (f_J6_bitCount_0f7a4 x7) (fun v12 _ => chk (inb v12 n0) (letE (jset S6 (b0 + 2) v12.toNatClampNeg x8) fun S13 => jbin0 (f_X10_withBit x7 x8 (1 : Int32)) (fun v14 _ => k11 S13 v14))) else k11 S6 x7)) else k11 S6 x7))))) (fun _ _ _ => none) 1000 S2 x3 (0 : Int32))) (fun _ _ _ => none) 1000 S (0 : Int32) (0 : Int32)
abbrev rm_X4_arrange : Room := { frames := 1, cells := 0, slots := 0, locals := 22 }
set_option maxHeartbeats 4000000 in
set_option maxRecDepth 100000 in
theorem c_X4_arrange {l : Launch} {D : va_G} {B t0 : Nat} (hl9 : l.stackTraces = false) (S : jS) (X9 : jMem) (z : Nat → Prop) (b0 n0 : Nat) (hb0 : isGraph b0 n0) : jCf l D B t0 yX4_arrange cX4_arrange 4 none rm_X4_arrange [.ref (B + b0)] (memG 0 358 D B S X9) z (f_X4_arrange S b0 n0) rvV (fun S9 M9 => M9 = memG 0 358 D B S9 X9) z := by
  refine jC_of hl9 (me_X4_arrange).1 [(0, .ref (B + b0))] ⟨by decide +kernel, Nat.le_of_ble_eq_true rfl⟩ rfl (fun κ hl hD hB hT X htab hin => ?_)
  subst hl hD hB hT
  have X : jX κ RX4 cX4_arrange 4 none := X
  unfold f_X4_arrange
  refine j_iconst X (0 : Int32) dX4_arrange_0 (by rfl) ?_
  refine j_istore_n X [(1, .int (0 : Int32)), (0, .ref (kB κ + b0))] dX4_arrange_1 rfl (by decide) rfl ?_
  refine j_iconst X (0 : Int32) dX4_arrange_2 (by rfl) ?_
  refine j_istore_n X [(2, .int (0 : Int32)), (1, .int (0 : Int32)), (0, .ref (kB κ + b0))] dX4_arrange_3 rfl (by decide) rfl ?_
  refine j_lv [2, 1, 0] rfl ?_
  refine j_loop (fun (k : jS → Int32 → Int32 → Option (jR jS)) => ∀ (S2 : jS) (x3 : Int32) (x4 : Int32), J κ 4 rm_X4_arrange (jQf κ rm_X4_arrange rvV (fun S9 M9 => M9 = memG 0 358 (kD κ) (kB κ) S9 X9) z) (k S2 x3 x4) (memG 0 358 (kD κ) (kB κ) S2 X9) z 0 0 [(0, .ref (kB κ + b0)), (1, .int x3), (2, .int x4)] 4 []) (fun _ _ _ => j_none) (fun rec1 hrec1 => ?_) 1000 _ _ _
  intro S2 x3 x4
  refine j_iload_n X 2 rfl dX4_arrange_4 rfl ?_
  refine j_aload_n X 0 rfl dX4_arrange_5 rfl ?_
  refine g_getf X 0 (kGraph hb0).1 cf_X4 (by decide) fl_X4_7 dX4_arrange_6 rfl rfl ?_
  refine j_alen X 0 rfl rfl dX4_arrange_9 ((memG_at (kGraph hb0).2.1).trans (congrArg some (cellK_i (n := n0) (kGraph_n hb0) _))) ?_
  refine j_icmp_ge X 74 dX4_arrange_10 (by decide) ?_ ?_
  · exact j_vret X dX4_arrange_74 rfl (fun _ h => h)
  · refine j_iconst X (0 : Int32) dX4_arrange_13 (by rfl) ?_
    refine j_istore_n X [(3, .int (0 : Int32)), (0, .ref (kB κ + b0)), (1, .int x3), (2, .int x4)] dX4_arrange_14 rfl (by decide) rfl ?_
    refine j_lv [1, 2, 3, 0] rfl ?_
    refine j_loop (fun (k : jS → Int32 → Int32 → Option (jR jS)) => ∀ (S6 : jS) (x7 : Int32) (x8 : Int32), J κ 4 rm_X4_arrange (jQf κ rm_X4_arrange rvV (fun S9 M9 => M9 = memG 0 358 (kD κ) (kB κ) S9 X9) z) (k S6 x7 x8) (memG 0 358 (kD κ) (kB κ) S6 X9) z 0 0 [(0, .ref (kB κ + b0)), (1, .int x7), (2, .int x4), (3, .int x8)] 15 []) (fun _ _ _ => j_none) (fun rec5 hrec5 => ?_) 1000 _ _ _
    intro S6 x7 x8
    refine j_iload_n X 3 rfl dX4_arrange_15 rfl ?_
    refine j_aload_n X 0 rfl dX4_arrange_16 rfl ?_
    refine g_getf X 0 (kGraph hb0).1 cf_X4 (by decide) fl_X4_7 dX4_arrange_17 rfl rfl ?_
    refine j_alen X 0 rfl rfl dX4_arrange_20 ((memG_at (kGraph hb0).2.1).trans (congrArg some (cellK_i (n := n0) (kGraph_n hb0) _))) ?_
    refine j_icmp_ge X 68 dX4_arrange_21 (by decide) ?_ ?_
    · refine j_iincL X 2 (fun x9 => [(2, .int x9), (0, .ref (kB κ + b0)), (1, .int x7), (3, .int x8)]) dX4_arrange_68 rfl (by rfl) (by decide) (fun _ => rfl) (fun x9 => ?_)
      refine j_goto X 4 dX4_arrange_71 (by decide) ?_
      refine j_lv [1, 2, 0] rfl ?_
      exact hrec1 S6 x7 x9
    · refine j_iload_n X 1 rfl dX4_arrange_24 rfl ?_
      refine j_iload_n X 3 rfl dX4_arrange_25 rfl ?_
      refine j_call0SN X 0 0 (c_X10_hasBit X.tr (memG 0 358 (kD κ) (kB κ) S6 X9) z x7 x8) me_X10_hasBit mn_X4_19 st_X10_hasBit dX4_arrange_26 (rest := []) rfl rfl (by decide) (by decide) (Nat.le_of_ble_eq_true rfl) (fun v10 u28 M27 hM26 => ?_)
      subst M27
      refine j_st (st1 := [.int v10]) rfl ?_
      refine j_join (fun k11 => ∀ (S23 : jS) (x24 : Int32), J κ 4 rm_X4_arrange (jQf κ rm_X4_arrange rvV (fun S9 M9 => M9 = memG 0 358 (kD κ) (kB κ) S9 X9) z) (k11 S23 x24) (memG 0 358 (kD κ) (kB κ) S23 X9) z 0 0 [(0, .ref (kB κ + b0)), (1, .int x24), (2, .int x4), (3, .int x8)] 62 []) ?_ (fun k11 hk11 => ?_)
      · intro S23 x24
        refine j_iincL X 3 (fun x25 => [(3, .int x25), (0, .ref (kB κ + b0)), (1, .int x24), (2, .int x4)]) dX4_arrange_62 rfl (by rfl) (by decide) (fun _ => rfl) (fun x25 => ?_)
        refine j_goto X 15 dX4_arrange_65 (by decide) ?_
        refine j_lv [1, 2, 3, 0] rfl ?_
        exact hrec5 S23 x24 x25
      · refine j_if_ne X 62 dX4_arrange_29 (by decide) ?_ ?_
        · refine j_aload_n X 0 rfl dX4_arrange_32 rfl ?_
          refine g_getf X 0 (kGraph hb0).1 cf_X4 (by decide) fl_X4_7 dX4_arrange_33 rfl rfl ?_
          refine j_iload_n X 3 rfl dX4_arrange_36 rfl ?_
          refine g_iald X n0 (kGraph hb0).2.1 (kGraph_n hb0) dX4_arrange_37 (fun h22 => ?_)
          refine j_iload_n X 1 rfl dX4_arrange_38 rfl ?_
          refine j_iconst X (-1 : Int32) dX4_arrange_39 (by rfl) ?_
          refine j_ixor X dX4_arrange_40 ?_
          refine j_iand X dX4_arrange_41 ?_
          refine j_if_ne X 62 dX4_arrange_42 (by decide) ?_ ?_
          · refine j_aload_n X 0 rfl dX4_arrange_45 rfl ?_
            refine g_getf X 1 (kGraph hb0).1 cf_X4 (by decide) fl_X4_13 dX4_arrange_46 rfl rfl ?_
            refine j_iload_n X 1 rfl dX4_arrange_49 rfl ?_
            refine j_call0S X 0 0 (c_J6_bitCount_0f7a4 X.tr (memG 0 358 (kD κ) (kB κ) S6 X9) z x7) me_J6_bitCount_0f7a4 ml_X4_25 st_J6_bitCount_0f7a4 dX4_arrange_50 (rest := [.ref (kB κ + (b0 + 2))]) rfl rfl (by decide) (by decide) (Nat.le_of_ble_eq_true rfl) (fun v12 u21 M20 hM19 => ?_)
            subst M20
            refine j_st (st1 := [.int v12, .ref (kB κ + (b0 + 2))]) rfl ?_
            refine j_iload_n X 3 rfl dX4_arrange_53 rfl ?_
            refine g_iast X n0 (kGraph hb0).2.2 (kGraph_n hb0) dX4_arrange_54 (fun h18 S13 => ?_)
            refine j_iload_n X 1 rfl dX4_arrange_55 rfl ?_
            refine j_iload_n X 3 rfl dX4_arrange_56 rfl ?_
            refine j_iconst X (1 : Int32) dX4_arrange_57 (by rfl) ?_
            refine j_call0SN X 0 0 (c_X10_withBit X.tr (memG 0 358 (kD κ) (kB κ) S13 X9) z x7 x8 (1 : Int32)) me_X10_withBit mn_X4_31 st_X10_withBit dX4_arrange_58 (rest := []) rfl rfl (by decide) (by decide) (Nat.le_of_ble_eq_true rfl) (fun v14 u17 M16 hM15 => ?_)
            subst M16
            refine j_st (st1 := [.int v14]) rfl ?_
            refine j_istore_n X [(1, .int v14), (0, .ref (kB κ + b0)), (2, .int x4), (3, .int x8)] dX4_arrange_61 rfl (by decide) rfl ?_
            refine j_lv [1, 0, 2, 3] rfl ?_
            exact hk11 S13 v14
          · exact hk11 S6 x7
        · exact hk11 S6 x7
def f_X4_point (S : jS) (b0 n0 : Nat) (p1 : Int32) (p2 : Int32) : Option (jR jS) := chk (inb p1 n0) (letE (jset S (b0 + 1) p1.toNatClampNeg p2) fun S1 => jbin0 (f_X4_arrange S1 b0 n0) (fun _ S2 => some (0, (0 : Int32), S2)))
abbrev rm_X4_point : Room := { frames := 2, cells := 0, slots := 0, locals := 45 }
set_option maxHeartbeats 4000000 in
set_option maxRecDepth 100000 in
theorem c_X4_point {l : Launch} {D : va_G} {B t0 : Nat} (hl9 : l.stackTraces = false) (S : jS) (X9 : jMem) (z : Nat → Prop) (b0 n0 : Nat) (hb0 : isGraph b0 n0) (p1 : Int32) (p2 : Int32) : jCf l D B t0 yX4_point cX4_point 3 none rm_X4_point [.ref (B + b0), .int p1, .int p2] (memG 0 358 D B S X9) z (f_X4_point S b0 n0 p1 p2) rvV (fun S9 M9 => M9 = memG 0 358 D B S9 X9) z := by
  refine jC_of hl9 (me_X4_point).1 [(0, .ref (B + b0)), (1, .int p1), (2, .int p2)] ⟨by decide +kernel, Nat.le_of_ble_eq_true rfl⟩ rfl (fun κ hl hD hB hT X htab hin => ?_)
  subst hl hD hB hT
  have X : jX κ RX4 cX4_point 3 none := X
  unfold f_X4_point
  refine j_aload_n X 0 rfl dX4_point_0 rfl ?_
  refine g_getf X 0 (kGraph hb0).1 cf_X4 (by decide) fl_X4_7 dX4_point_1 rfl rfl ?_
  refine j_iload_n X 1 rfl dX4_point_4 rfl ?_
  refine j_iload_n X 2 rfl dX4_point_5 rfl ?_
  refine g_iast X n0 (kGraph hb0).2.1 (kGraph_n hb0) dX4_point_6 (fun h6 S1 => ?_)
  refine j_aload_n X 0 rfl dX4_point_7 rfl ?_
  refine j_call0V X 0 0 (c_X4_arrange X.tr S1 X9 z b0 n0 hb0) me_X4_arrange ml_X4_16 iv_X4_arrange cf_X4 dX4_point_8 (memG_at (kGraph hb0).1) (rest := []) rfl rfl (by decide) (by decide) (Nat.le_of_ble_eq_true rfl) (fun v5 S2 M4 hM3 => ?_)
  subst M4
  refine j_st (st1 := []) rfl ?_
  exact j_vret X dX4_point_11 rfl (fun _ h => h)
def f_X0_adoptDraft (S : jS) (p1 : Int32) : Option (jR jS) := chk (inb p1 6) (chk (inb p1 6) (jbin0 (f_X8_copy S (39 + 4 * p1.toNatClampNeg) (37 + 4 * p1.toNatClampNeg)) (fun _ S3 => chk (inb p1 6) (jbin0 (f_X8_audiencesReferredTo S3 (37 + 4 * p1.toNatClampNeg)) (fun v5 _ => jbin0 (f_X4_point S3 27 6 p1 v5) (fun _ S6 => chk (cpOk (S6 31) (0 : Int32) (0 : Int32) (6 : Int32) 6 6 .int) (letE (jrow S6 30 (va_cpy (S6 31) (S6 30) (0 : Int32).toNatClampNeg (0 : Int32).toNatClampNeg (6 : Int32).toNatClampNeg)) fun S7 => some (0, (0 : Int32), S7))))))))
abbrev rm_X0_adoptDraft : Room := { frames := 3, cells := 0, slots := 0, locals := 67 }
set_option maxHeartbeats 4000000 in
set_option maxRecDepth 100000 in
theorem c_X0_adoptDraft {l : Launch} {D : va_G} {B t0 : Nat} (hl9 : l.stackTraces = false) (S : jS) (X9 : jMem) (z : Nat → Prop) (p1 : Int32) : jCf l D B t0 yX0_adoptDraft cX0_adoptDraft 2 none rm_X0_adoptDraft [.ref (B + 24), .int p1] (memG 0 358 D B S X9) z (f_X0_adoptDraft S p1) rvV (fun S9 M9 => M9 = memG 0 358 D B S9 X9) z := by
  refine jC_of hl9 (me_X0_adoptDraft).1 [(0, .ref (B + 24)), (1, .int p1)] ⟨by decide +kernel, Nat.le_of_ble_eq_true rfl⟩ rfl (fun κ hl hD hB hT X htab hin => ?_)
  subst hl hD hB hT
  have X : jX κ RX0 cX0_adoptDraft 2 none := X
  unfold f_X0_adoptDraft
  refine j_aload_n X 0 rfl dX0_adoptDraft_0 rfl ?_
  refine g_getf X 1 kf_24 cf_X0 (by decide) fl_X0_17 dX0_adoptDraft_1 rfl rfl ?_
  refine j_iload_n X 1 rfl dX0_adoptDraft_4 rfl ?_
  refine g_aald X 5 6 kf_26 rfl rfl dX0_adoptDraft_5 rfl rfl (fun h1 => ?_)
  refine j_aload_n X 0 rfl dX0_adoptDraft_6 rfl ?_
  refine g_getf X 0 kf_24 cf_X0 (by decide) fl_X0_11 dX0_adoptDraft_7 rfl rfl ?_
  refine j_iload_n X 1 rfl dX0_adoptDraft_10 rfl ?_
  refine g_aald X 5 6 kf_25 rfl rfl dX0_adoptDraft_11 rfl rfl (fun h2 => ?_)
  refine j_call0V X 0 0 (c_X8_copy X.tr S X9 z (39 + 4 * p1.toNatClampNeg) (isText_r h1) (37 + 4 * p1.toNatClampNeg) (isText_d h2)) me_X8_copy ml_X0_74 iv_X8_copy cf_X8 dX0_adoptDraft_12 (memG_at (kText (isText_r h1)).1) (rest := []) rfl rfl (by decide) (by decide) (Nat.le_of_ble_eq_true rfl) (fun v16 S3 M15 hM14 => ?_)
  subst M15
  refine j_st (st1 := []) rfl ?_
  refine j_aload_n X 0 rfl dX0_adoptDraft_15 rfl ?_
  refine g_getf X 2 kf_24 cf_X0 (by decide) fl_X0_25 dX0_adoptDraft_16 rfl rfl ?_
  refine j_iload_n X 1 rfl dX0_adoptDraft_19 rfl ?_
  refine j_aload_n X 0 rfl dX0_adoptDraft_20 rfl ?_
  refine g_getf X 0 kf_24 cf_X0 (by decide) fl_X0_11 dX0_adoptDraft_21 rfl rfl ?_
  refine j_iload_n X 1 rfl dX0_adoptDraft_24 rfl ?_
  refine g_aald X 5 6 kf_25 rfl rfl dX0_adoptDraft_25 rfl rfl (fun h4 => ?_)
  refine j_call0V X 0 0 (c_X8_audiencesReferredTo X.tr S3 X9 z (37 + 4 * p1.toNatClampNeg) (isText_d h4)) me_X8_audiencesReferredTo ml_X0_59 iv_X8_audiencesReferredTo cf_X8 dX0_adoptDraft_26 (memG_at (kText (isText_d h4)).1) (rest := [.int p1, .ref (kB κ + 27)]) rfl rfl (by decide) (by decide) (Nat.le_of_ble_eq_true rfl) (fun v5 u13 M12 hM11 => ?_)
  subst M12
  refine j_st (st1 := [.int v5, .int p1, .ref (kB κ + 27)]) rfl ?_
  refine j_call0V X 0 0 (c_X4_point X.tr S3 X9 z 27 6 isGraph_6 p1 v5) me_X4_point ml_X0_78 iv_X4_point cf_X4 dX0_adoptDraft_29 (memG_at (kGraph isGraph_6).1) (rest := []) rfl rfl (by decide) (by decide) (Nat.le_of_ble_eq_true rfl) (fun v10 S6 M9 hM8 => ?_)
  subst M9
  refine j_st (st1 := []) rfl ?_
  refine j_aload_n X 0 rfl dX0_adoptDraft_32 rfl ?_
  refine g_getf X 4 kf_24 cf_X0 (by decide) fl_X0_33 dX0_adoptDraft_33 rfl rfl ?_
  refine j_iconst X (0 : Int32) dX0_adoptDraft_36 (by rfl) ?_
  refine j_aload_n X 0 rfl dX0_adoptDraft_37 rfl ?_
  refine g_getf X 3 kf_24 cf_X0 (by decide) fl_X0_29 dX0_adoptDraft_38 rfl rfl ?_
  refine j_iconst X (0 : Int32) dX0_adoptDraft_41 (by rfl) ?_
  refine j_bipush X (6 : Int32) dX0_adoptDraft_42 (by rfl) ?_
  refine g_copyI X 6 6 kf_31 kf_30 (by decide) ml_X0_82 nt_arraycopy st_arraycopy in_system (by decide +kernel) dX0_adoptDraft_44 (fun S7 => ?_)
  exact j_vret X dX0_adoptDraft_47 rfl (fun _ h => h)
def f_X1_concerns (S : jS) (e0 : Nat → Int32) (p1 : Int32) : Option (jR Unit) := joinK (fun (x3 : Int32) => chk (isb x3) (some (0, x3, ()))) (fun k1 => joinK (fun (_ : Unit) => k1 (1 : Int32)) (fun k2 => (if (e0 1) = (-1 : Int32) then k2 () else (if (e0 1) = p1 then k2 () else k1 (0 : Int32)))))
abbrev rm_X1_concerns : Room := { frames := 0, cells := 0, slots := 0, locals := 0 }
set_option maxHeartbeats 4000000 in
set_option maxRecDepth 100000 in
theorem c_X1_concerns {l : Launch} {D : va_G} {B t0 : Nat} (hl9 : l.stackTraces = false) (S : jS) (X9 : jMem) (z : Nat → Prop) (q0 : Nat) (e0 : Nat → Int32) (hq0 : B + 358 ≤ q0) (he0 : X9 q0 = some (entC e0)) (p1 : Int32) : jCf l D B t0 yX1_concerns cX1_concerns 2 (some .boolean) rm_X1_concerns [.ref q0, .int p1] (memG 0 358 D B S X9) z (f_X1_concerns S e0 p1) rvI (fun (S9 : Unit) M9 => M9 = memG 0 358 D B S X9) z := by
  refine jC_of hl9 (me_X1_concerns).1 [(0, .ref q0), (1, .int p1)] ⟨by decide +kernel, Nat.le_of_ble_eq_true rfl⟩ rfl (fun κ hl hD hB hT X htab hin => ?_)
  subst hl hD hB hT
  have X : jX κ RX1 cX1_concerns 2 (some .boolean) := X
  unfold f_X1_concerns
  refine j_aload_n X 0 rfl dX1_concerns_0 rfl ?_
  refine j_getf X 1 cf_X1 (by decide) fl_X1_15 dX1_concerns_1 ((memG_out (Or.inr hq0)).trans he0) rfl ?_
  refine j_iconst X (-1 : Int32) dX1_concerns_4 (by rfl) ?_
  refine j_join (fun k1 => ∀ (x3 : Int32), J κ 2 rm_X1_concerns (jQf κ rm_X1_concerns rvI (fun (S9 : Unit) M9 => M9 = memG 0 358 (kD κ) (kB κ) S X9) z) (k1 x3) (memG 0 358 (kD κ) (kB κ) S X9) z 0 0 [] 21 [.int x3]) ?_ (fun k1 hk1 => ?_)
  · intro x3
    exact j_zret X dX1_concerns_21 rfl (fun _ h => h)
  · refine j_join (fun k2 => ∀ (_ : Unit), J κ 2 rm_X1_concerns (jQf κ rm_X1_concerns rvI (fun (S9 : Unit) M9 => M9 = memG 0 358 (kD κ) (kB κ) S X9) z) (k2 ()) (memG 0 358 (kD κ) (kB κ) S X9) z 0 0 [] 16 []) ?_ (fun k2 hk2 => ?_)
    · intro _
      refine j_iconst X (1 : Int32) dX1_concerns_16 (by rfl) ?_
      refine j_goto X 21 dX1_concerns_17 (by decide) ?_
      exact hk1 (1 : Int32)
    · refine j_icmp_eq X 16 dX1_concerns_5 (by decide) ?_ ?_
      · refine j_lv [] rfl ?_
        exact hk2 ()
      · refine j_aload_n X 0 rfl dX1_concerns_8 rfl ?_
        refine j_getf X 1 cf_X1 (by decide) fl_X1_15 dX1_concerns_9 ((memG_out (Or.inr hq0)).trans he0) rfl ?_
        refine j_iload_n X 1 rfl dX1_concerns_12 rfl ?_
        refine j_icmp_ne X 20 dX1_concerns_13 (by decide) ?_ ?_
        · refine j_lv [] rfl ?_
          exact hk2 ()
        · refine j_iconst X (0 : Int32) dX1_concerns_20 (by rfl) ?_
          refine j_lv [] rfl ?_
          exact hk1 (0 : Int32)
def f_X3_insert (S : jS) (b0 : Nat) (p1 : Int32) (p2 : Int32) (p3 : Int32) : Option (jR jS) := joinK (fun (_ : Unit) => some (0, (0 : Int32), S)) (fun k1 => (if p1 < (0 : Int32) then k1 () else (if (S b0 2) < p1 then k1 () else (if (S b0 2) < (5 : Int32) then letE (S b0 2) fun x2 => loopK (fun (rec3 : jS → Int32 → Option (jR jS)) (S4 : jS) (x5 : Int32) => (if x5 ≤ p1 then chk (inb p1 5) (letE (jset S4 (b0 + 1) p1.toNatClampNeg p2) fun S6 => chk (inb p1 5) (letE (jset S6 (b0 + 2) p1.toNatClampNeg p3) fun S7 => letE (jset S7 b0 2 (((S7 b0 2) + (1 : Int32)))) fun S8 => some (0, (0 : Int32), S8))) else chk (inb ((x5 - (1 : Int32))) 5) (chk (inb x5 5) (letE (jset S4 (b0 + 1) x5.toNatClampNeg ((S4 (b0 + 1) ((x5 - (1 : Int32))).toNatClampNeg))) fun S11 => chk (inb ((x5 - (1 : Int32))) 5) (chk (inb x5 5) (letE (jset S11 (b0 + 2) x5.toNatClampNeg ((S11 (b0 + 2) ((x5 - (1 : Int32))).toNatClampNeg))) fun S12 => letE (x5 + (-1 : Int32)) fun x13 => rec3 S12 x13)))))) (fun _ _ => none) 1000 S x2 else k1 ()))))
abbrev rm_X3_insert : Room := { frames := 0, cells := 0, slots := 0, locals := 0 }
set_option maxHeartbeats 4000000 in
set_option maxRecDepth 100000 in
theorem c_X3_insert {l : Launch} {D : va_G} {B t0 : Nat} (hl9 : l.stackTraces = false) (S : jS) (X9 : jMem) (z : Nat → Prop) (b0 : Nat) (hb0 : isFlag b0) (p1 : Int32) (p2 : Int32) (p3 : Int32) : jCf l D B t0 yX3_insert cX3_insert 5 none rm_X3_insert [.ref (B + b0), .int p1, .int p2, .int p3] (memG 0 358 D B S X9) z (f_X3_insert S b0 p1 p2 p3) rvV (fun S9 M9 => M9 = memG 0 358 D B S9 X9) z := by
  refine jC_of hl9 (me_X3_insert).1 [(0, .ref (B + b0)), (1, .int p1), (2, .int p2), (3, .int p3)] ⟨by decide +kernel, Nat.le_of_ble_eq_true rfl⟩ rfl (fun κ hl hD hB hT X htab hin => ?_)
  subst hl hD hB hT
  have X : jX κ RX3 cX3_insert 5 none := X
  unfold f_X3_insert
  refine j_iload_n X 1 rfl dX3_insert_0 rfl ?_
  refine j_join (fun k1 => ∀ (_ : Unit), J κ 5 rm_X3_insert (jQf κ rm_X3_insert rvV (fun S9 M9 => M9 = memG 0 358 (kD κ) (kB κ) S9 X9) z) (k1 ()) (memG 0 358 (kD κ) (kB κ) S X9) z 0 0 [] 20 []) ?_ (fun k1 hk1 => ?_)
  · intro _
    exact j_vret X dX3_insert_20 rfl (fun _ h => h)
  · refine j_if_lt X 20 dX3_insert_1 (by decide) ?_ ?_
    · refine j_lv [] rfl ?_
      exact hk1 ()
    · refine j_iload_n X 1 rfl dX3_insert_4 rfl ?_
      refine j_aload_n X 0 rfl dX3_insert_5 rfl ?_
      refine g_getf X 2 (kFlag hb0).1 cf_X3 (by decide) fl_X3_18 dX3_insert_6 rfl rfl ?_
      refine j_icmp_gt X 20 dX3_insert_9 (by decide) ?_ ?_
      · refine j_lv [] rfl ?_
        exact hk1 ()
      · refine j_aload_n X 0 rfl dX3_insert_12 rfl ?_
        refine g_getf X 2 (kFlag hb0).1 cf_X3 (by decide) fl_X3_18 dX3_insert_13 rfl rfl ?_
        refine j_iconst X (5 : Int32) dX3_insert_16 (by rfl) ?_
        refine j_icmp_lt X 21 dX3_insert_17 (by decide) ?_ ?_
        · refine j_aload_n X 0 rfl dX3_insert_21 rfl ?_
          refine g_getf X 2 (kFlag hb0).1 cf_X3 (by decide) fl_X3_18 dX3_insert_22 rfl rfl ?_
          refine j_letE (fun x2 => ?_)
          refine j_istore X [(4, .int x2), (0, .ref (kB κ + b0)), (1, .int p1), (2, .int p2), (3, .int p3)] dX3_insert_25 (by decide) rfl ?_
          refine j_lv [1, 2, 3, 4, 0] rfl ?_
          refine j_loop (fun (k : jS → Int32 → Option (jR jS)) => ∀ (S4 : jS) (x5 : Int32), J κ 5 rm_X3_insert (jQf κ rm_X3_insert rvV (fun S9 M9 => M9 = memG 0 358 (kD κ) (kB κ) S9 X9) z) (k S4 x5) (memG 0 358 (kD κ) (kB κ) S4 X9) z 0 0 [(0, .ref (kB κ + b0)), (1, .int p1), (2, .int p2), (3, .int p3), (4, .int x5)] 27 []) (fun _ _ => j_none) (fun rec3 hrec3 => ?_) 1000 _ _
          intro S4 x5
          refine j_iload X 4 rfl dX3_insert_27 ?_
          refine j_iload_n X 1 rfl dX3_insert_29 rfl ?_
          refine j_icmp_le X 71 dX3_insert_30 (by decide) ?_ ?_
          · refine j_aload_n X 0 rfl dX3_insert_71 rfl ?_
            refine g_getf X 0 (kFlag hb0).1 cf_X3 (by decide) fl_X3_9 dX3_insert_72 rfl rfl ?_
            refine j_iload_n X 1 rfl dX3_insert_75 rfl ?_
            refine j_iload_n X 2 rfl dX3_insert_76 rfl ?_
            refine g_iast X 5 (kFlag hb0).2.1 (by decide) dX3_insert_77 (fun h10 S6 => ?_)
            refine j_aload_n X 0 rfl dX3_insert_78 rfl ?_
            refine g_getf X 1 (kFlag hb0).1 cf_X3 (by decide) fl_X3_15 dX3_insert_79 rfl rfl ?_
            refine j_iload_n X 1 rfl dX3_insert_82 rfl ?_
            refine j_iload_n X 3 rfl dX3_insert_83 rfl ?_
            refine g_iast X 5 (kFlag hb0).2.2 (by decide) dX3_insert_84 (fun h9 S7 => ?_)
            refine j_aload_n X 0 rfl dX3_insert_85 rfl ?_
            refine j_dup X dX3_insert_86 rfl ?_
            refine g_getf X 2 (kFlag hb0).1 cf_X3 (by decide) fl_X3_18 dX3_insert_87 rfl rfl ?_
            refine j_iconst X (1 : Int32) dX3_insert_90 (by rfl) ?_
            refine j_iadd X dX3_insert_91 ?_
            refine g_putf X 2 (kFlag hb0).1 cf_X3 (by decide) fl_X3_18 dX3_insert_92 rfl rfl rfl rfl (Nat.le_of_ble_eq_true rfl) rfl (fun S8 => ?_)
            exact j_vret X dX3_insert_95 rfl (fun _ h => h)
          · refine j_aload_n X 0 rfl dX3_insert_33 rfl ?_
            refine g_getf X 0 (kFlag hb0).1 cf_X3 (by decide) fl_X3_9 dX3_insert_34 rfl rfl ?_
            refine j_iload X 4 rfl dX3_insert_37 ?_
            refine j_aload_n X 0 rfl dX3_insert_39 rfl ?_
            refine g_getf X 0 (kFlag hb0).1 cf_X3 (by decide) fl_X3_9 dX3_insert_40 rfl rfl ?_
            refine j_iload X 4 rfl dX3_insert_43 ?_
            refine j_iconst X (1 : Int32) dX3_insert_45 (by rfl) ?_
            refine j_isub X dX3_insert_46 ?_
            refine g_iald X 5 (kFlag hb0).2.1 (by decide) dX3_insert_47 (fun h17 => ?_)
            refine g_iast X 5 (kFlag hb0).2.1 (by decide) dX3_insert_48 (fun h16 S11 => ?_)
            refine j_aload_n X 0 rfl dX3_insert_49 rfl ?_
            refine g_getf X 1 (kFlag hb0).1 cf_X3 (by decide) fl_X3_15 dX3_insert_50 rfl rfl ?_
            refine j_iload X 4 rfl dX3_insert_53 ?_
            refine j_aload_n X 0 rfl dX3_insert_55 rfl ?_
            refine g_getf X 1 (kFlag hb0).1 cf_X3 (by decide) fl_X3_15 dX3_insert_56 rfl rfl ?_
            refine j_iload X 4 rfl dX3_insert_59 ?_
            refine j_iconst X (1 : Int32) dX3_insert_61 (by rfl) ?_
            refine j_isub X dX3_insert_62 ?_
            refine g_iald X 5 (kFlag hb0).2.2 (by decide) dX3_insert_63 (fun h15 => ?_)
            refine g_iast X 5 (kFlag hb0).2.2 (by decide) dX3_insert_64 (fun h14 S12 => ?_)
            refine j_iincL X 4 (fun x13 => [(4, .int x13), (0, .ref (kB κ + b0)), (1, .int p1), (2, .int p2), (3, .int p3)]) dX3_insert_65 rfl (by rfl) (by decide) (fun _ => rfl) (fun x13 => ?_)
            refine j_goto X 27 dX3_insert_68 (by decide) ?_
            refine j_lv [1, 2, 3, 4, 0] rfl ?_
            exact hrec3 S12 x13
        · refine j_lv [] rfl ?_
          exact hk1 ()
def f_X3_delete (S : jS) (b0 : Nat) (p1 : Int32) : Option (jR jS) := joinK (fun (_ : Unit) => some (0, (0 : Int32), S)) (fun k1 => (if p1 < (0 : Int32) then k1 () else (if p1 < (S b0 2) then loopK (fun (rec2 : jS → Int32 → Option (jR jS)) (S3 : jS) (x4 : Int32) => (if ((S3 b0 2) - (1 : Int32)) ≤ x4 then letE (jset S3 b0 2 (((S3 b0 2) - (1 : Int32)))) fun S5 => some (0, (0 : Int32), S5) else chk (inb ((x4 + (1 : Int32))) 5) (chk (inb x4 5) (letE (jset S3 (b0 + 1) x4.toNatClampNeg ((S3 (b0 + 1) ((x4 + (1 : Int32))).toNatClampNeg))) fun S6 => chk (inb ((x4 + (1 : Int32))) 5) (chk (inb x4 5) (letE (jset S6 (b0 + 2) x4.toNatClampNeg ((S6 (b0 + 2) ((x4 + (1 : Int32))).toNatClampNeg))) fun S7 => letE (x4 + (1 : Int32)) fun x8 => rec2 S7 x8)))))) (fun _ _ => none) 1000 S p1 else k1 ())))
abbrev rm_X3_delete : Room := { frames := 0, cells := 0, slots := 0, locals := 0 }
set_option maxHeartbeats 4000000 in
set_option maxRecDepth 100000 in
theorem c_X3_delete {l : Launch} {D : va_G} {B t0 : Nat} (hl9 : l.stackTraces = false) (S : jS) (X9 : jMem) (z : Nat → Prop) (b0 : Nat) (hb0 : isFlag b0) (p1 : Int32) : jCf l D B t0 yX3_delete cX3_delete 3 none rm_X3_delete [.ref (B + b0), .int p1] (memG 0 358 D B S X9) z (f_X3_delete S b0 p1) rvV (fun S9 M9 => M9 = memG 0 358 D B S9 X9) z := by
  refine jC_of hl9 (me_X3_delete).1 [(0, .ref (B + b0)), (1, .int p1)] ⟨by decide +kernel, Nat.le_of_ble_eq_true rfl⟩ rfl (fun κ hl hD hB hT X htab hin => ?_)
  subst hl hD hB hT
  have X : jX κ RX3 cX3_delete 3 none := X
  unfold f_X3_delete
  refine j_iload_n X 1 rfl dX3_delete_0 rfl ?_
  refine j_join (fun k1 => ∀ (_ : Unit), J κ 3 rm_X3_delete (jQf κ rm_X3_delete rvV (fun S9 M9 => M9 = memG 0 358 (kD κ) (kB κ) S9 X9) z) (k1 ()) (memG 0 358 (kD κ) (kB κ) S X9) z 0 0 [] 12 []) ?_ (fun k1 hk1 => ?_)
  · intro _
    exact j_vret X dX3_delete_12 rfl (fun _ h => h)
  · refine j_if_lt X 12 dX3_delete_1 (by decide) ?_ ?_
    · refine j_lv [] rfl ?_
      exact hk1 ()
    · refine j_iload_n X 1 rfl dX3_delete_4 rfl ?_
      refine j_aload_n X 0 rfl dX3_delete_5 rfl ?_
      refine g_getf X 2 (kFlag hb0).1 cf_X3 (by decide) fl_X3_18 dX3_delete_6 rfl rfl ?_
      refine j_icmp_lt X 13 dX3_delete_9 (by decide) ?_ ?_
      · refine j_iload_n X 1 rfl dX3_delete_13 rfl ?_
        refine j_istore_n X [(2, .int p1), (0, .ref (kB κ + b0)), (1, .int p1)] dX3_delete_14 rfl (by decide) rfl ?_
        refine j_lv [1, 0] rfl ?_
        refine j_loop (fun (k : jS → Int32 → Option (jR jS)) => ∀ (S3 : jS) (x4 : Int32), J κ 3 rm_X3_delete (jQf κ rm_X3_delete rvV (fun S9 M9 => M9 = memG 0 358 (kD κ) (kB κ) S9 X9) z) (k S3 x4) (memG 0 358 (kD κ) (kB κ) S3 X9) z 0 0 [(0, .ref (kB κ + b0)), (2, .int x4)] 15 []) (fun _ _ => j_none) (fun rec2 hrec2 => ?_) 1000 _ _
        intro S3 x4
        refine j_iload_n X 1 rfl dX3_delete_15 rfl ?_
        refine j_aload_n X 0 rfl dX3_delete_16 rfl ?_
        refine g_getf X 2 (kFlag hb0).1 cf_X3 (by decide) fl_X3_18 dX3_delete_17 rfl rfl ?_
        refine j_iconst X (1 : Int32) dX3_delete_20 (by rfl) ?_
        refine j_isub X dX3_delete_21 ?_
        refine j_icmp_ge X 59 dX3_delete_22 (by decide) ?_ ?_
        · refine j_aload_n X 0 rfl dX3_delete_59 rfl ?_
          refine j_dup X dX3_delete_60 rfl ?_
          refine g_getf X 2 (kFlag hb0).1 cf_X3 (by decide) fl_X3_18 dX3_delete_61 rfl rfl ?_
          refine j_iconst X (1 : Int32) dX3_delete_64 (by rfl) ?_
          refine j_isub X dX3_delete_65 ?_
          refine g_putf X 2 (kFlag hb0).1 cf_X3 (by decide) fl_X3_18 dX3_delete_66 rfl rfl rfl rfl (Nat.le_of_ble_eq_true rfl) rfl (fun S5 => ?_)
          exact j_vret X dX3_delete_69 rfl (fun _ h => h)
        · refine j_aload_n X 0 rfl dX3_delete_25 rfl ?_
          refine g_getf X 0 (kFlag hb0).1 cf_X3 (by decide) fl_X3_9 dX3_delete_26 rfl rfl ?_
          refine j_iload_n X 1 rfl dX3_delete_29 rfl ?_
          refine j_aload_n X 0 rfl dX3_delete_30 rfl ?_
          refine g_getf X 0 (kFlag hb0).1 cf_X3 (by decide) fl_X3_9 dX3_delete_31 rfl rfl ?_
          refine j_iload_n X 1 rfl dX3_delete_34 rfl ?_
          refine j_iconst X (1 : Int32) dX3_delete_35 (by rfl) ?_
          refine j_iadd X dX3_delete_36 ?_
          refine g_iald X 5 (kFlag hb0).2.1 (by decide) dX3_delete_37 (fun h12 => ?_)
          refine g_iast X 5 (kFlag hb0).2.1 (by decide) dX3_delete_38 (fun h11 S6 => ?_)
          refine j_aload_n X 0 rfl dX3_delete_39 rfl ?_
          refine g_getf X 1 (kFlag hb0).1 cf_X3 (by decide) fl_X3_15 dX3_delete_40 rfl rfl ?_
          refine j_iload_n X 1 rfl dX3_delete_43 rfl ?_
          refine j_aload_n X 0 rfl dX3_delete_44 rfl ?_
          refine g_getf X 1 (kFlag hb0).1 cf_X3 (by decide) fl_X3_15 dX3_delete_45 rfl rfl ?_
          refine j_iload_n X 1 rfl dX3_delete_48 rfl ?_
          refine j_iconst X (1 : Int32) dX3_delete_49 (by rfl) ?_
          refine j_iadd X dX3_delete_50 ?_
          refine g_iald X 5 (kFlag hb0).2.2 (by decide) dX3_delete_51 (fun h10 => ?_)
          refine g_iast X 5 (kFlag hb0).2.2 (by decide) dX3_delete_52 (fun h9 S7 => ?_)
          refine j_iincL X 1 (fun x8 => [(2, .int x8), (0, .ref (kB κ + b0))]) dX3_delete_53 rfl (by rfl) (by decide) (fun _ => rfl) (fun x8 => ?_)
          refine j_goto X 15 dX3_delete_56 (by decide) ?_
          refine j_lv [1, 0] rfl ?_
          exact hrec2 S7 x8
      · refine j_lv [] rfl ?_
        exact hk1 ()
def f_X3_outcomeOf (S : jS) (b0 : Nat) (p1 : Int32) : Option (jR Unit) := joinK (fun (x4 : Int32) => some (0, x4, ())) (fun k1 => joinK (fun (_ : Unit) => k1 (-1 : Int32)) (fun k2 => (if p1 < (0 : Int32) then k2 () else (if (S b0 2) ≤ p1 then k2 () else chk (inb p1 5) (k1 ((S (b0 + 2) p1.toNatClampNeg)))))))
abbrev rm_X3_outcomeOf : Room := { frames := 0, cells := 0, slots := 0, locals := 0 }
set_option maxHeartbeats 4000000 in
set_option maxRecDepth 100000 in
theorem c_X3_outcomeOf {l : Launch} {D : va_G} {B t0 : Nat} (hl9 : l.stackTraces = false) (S : jS) (X9 : jMem) (z : Nat → Prop) (b0 : Nat) (hb0 : isFlag b0) (p1 : Int32) : jCf l D B t0 yX3_outcomeOf cX3_outcomeOf 2 (some .int) rm_X3_outcomeOf [.ref (B + b0), .int p1] (memG 0 358 D B S X9) z (f_X3_outcomeOf S b0 p1) rvI (fun (S9 : Unit) M9 => M9 = memG 0 358 D B S X9) z := by
  refine jC_of hl9 (me_X3_outcomeOf).1 [(0, .ref (B + b0)), (1, .int p1)] ⟨by decide +kernel, Nat.le_of_ble_eq_true rfl⟩ rfl (fun κ hl hD hB hT X htab hin => ?_)
  subst hl hD hB hT
  have X : jX κ RX3 cX3_outcomeOf 2 (some .int) := X
  unfold f_X3_outcomeOf
  refine j_iload_n X 1 rfl dX3_outcomeOf_0 rfl ?_
  refine j_join (fun k1 => ∀ (x4 : Int32), J κ 2 rm_X3_outcomeOf (jQf κ rm_X3_outcomeOf rvI (fun (S9 : Unit) M9 => M9 = memG 0 358 (kD κ) (kB κ) S X9) z) (k1 x4) (memG 0 358 (kD κ) (kB κ) S X9) z 0 0 [] 22 [.int x4]) ?_ (fun k1 hk1 => ?_)
  · intro x4
    exact j_iret X dX3_outcomeOf_22 rfl (fun _ h => h)
  · refine j_join (fun k2 => ∀ (_ : Unit), J κ 2 rm_X3_outcomeOf (jQf κ rm_X3_outcomeOf rvI (fun (S9 : Unit) M9 => M9 = memG 0 358 (kD κ) (kB κ) S X9) z) (k2 ()) (memG 0 358 (kD κ) (kB κ) S X9) z 0 0 [] 21 []) ?_ (fun k2 hk2 => ?_)
    · intro _
      refine j_iconst X (-1 : Int32) dX3_outcomeOf_21 (by rfl) ?_
      exact hk1 (-1 : Int32)
    · refine j_if_lt X 21 dX3_outcomeOf_1 (by decide) ?_ ?_
      · refine j_lv [] rfl ?_
        exact hk2 ()
      · refine j_iload_n X 1 rfl dX3_outcomeOf_4 rfl ?_
        refine j_aload_n X 0 rfl dX3_outcomeOf_5 rfl ?_
        refine g_getf X 2 (kFlag hb0).1 cf_X3 (by decide) fl_X3_18 dX3_outcomeOf_6 rfl rfl ?_
        refine j_icmp_ge X 21 dX3_outcomeOf_9 (by decide) ?_ ?_
        · refine j_lv [] rfl ?_
          exact hk2 ()
        · refine j_aload_n X 0 rfl dX3_outcomeOf_12 rfl ?_
          refine g_getf X 1 (kFlag hb0).1 cf_X3 (by decide) fl_X3_15 dX3_outcomeOf_13 rfl rfl ?_
          refine j_iload_n X 1 rfl dX3_outcomeOf_16 rfl ?_
          refine g_iald X 5 (kFlag hb0).2.2 (by decide) dX3_outcomeOf_17 (fun h3 => ?_)
          refine j_goto X 22 dX3_outcomeOf_18 (by decide) ?_
          refine j_lv [] rfl ?_
          exact hk1 ((S (b0 + 2) p1.toNatClampNeg))
def f_X3_trialOf (S : jS) (b0 : Nat) (p1 : Int32) : Option (jR Unit) := jbin0 (f_X3_outcomeOf S b0 p1) (fun v1 _ => joinK (fun (x3 : Int32) => some (0, x3, ())) (fun k2 => (if v1 < (4 : Int32) then k2 (-1 : Int32) else k2 ((v1 - (4 : Int32))))))
abbrev rm_X3_trialOf : Room := { frames := 1, cells := 0, slots := 0, locals := 21 }
set_option maxHeartbeats 4000000 in
set_option maxRecDepth 100000 in
theorem c_X3_trialOf {l : Launch} {D : va_G} {B t0 : Nat} (hl9 : l.stackTraces = false) (S : jS) (X9 : jMem) (z : Nat → Prop) (b0 : Nat) (hb0 : isFlag b0) (p1 : Int32) : jCf l D B t0 yX3_trialOf cX3_trialOf 3 (some .int) rm_X3_trialOf [.ref (B + b0), .int p1] (memG 0 358 D B S X9) z (f_X3_trialOf S b0 p1) rvI (fun (S9 : Unit) M9 => M9 = memG 0 358 D B S X9) z := by
  refine jC_of hl9 (me_X3_trialOf).1 [(0, .ref (B + b0)), (1, .int p1)] ⟨by decide +kernel, Nat.le_of_ble_eq_true rfl⟩ rfl (fun κ hl hD hB hT X htab hin => ?_)
  subst hl hD hB hT
  have X : jX κ RX3 cX3_trialOf 3 (some .int) := X
  unfold f_X3_trialOf
  refine j_aload_n X 0 rfl dX3_trialOf_0 rfl ?_
  refine j_iload_n X 1 rfl dX3_trialOf_1 rfl ?_
  refine j_call0V X 0 0 (c_X3_outcomeOf X.tr S X9 z b0 hb0 p1) me_X3_outcomeOf ml_X3_22 iv_X3_outcomeOf cf_X3 dX3_trialOf_2 (memG_at (kFlag hb0).1) (rest := []) rfl rfl (by decide) (by decide) (Nat.le_of_ble_eq_true rfl) (fun v1 u6 M5 hM4 => ?_)
  subst M5
  refine j_st (st1 := [.int v1]) rfl ?_
  refine j_istore_n X [(2, .int v1), (0, .ref (kB κ + b0)), (1, .int p1)] dX3_trialOf_5 rfl (by decide) rfl ?_
  refine j_iload_n X 0 rfl dX3_trialOf_6 rfl ?_
  refine j_iconst X (4 : Int32) dX3_trialOf_7 (by rfl) ?_
  refine j_join (fun k2 => ∀ (x3 : Int32), J κ 3 rm_X3_trialOf (jQf κ rm_X3_trialOf rvI (fun (S9 : Unit) M9 => M9 = memG 0 358 (kD κ) (kB κ) S X9) z) (k2 x3) (memG 0 358 (kD κ) (kB κ) S X9) z 0 0 [] 18 [.int x3]) ?_ (fun k2 hk2 => ?_)
  · intro x3
    exact j_iret X dX3_trialOf_18 rfl (fun _ h => h)
  · refine j_icmp_lt X 17 dX3_trialOf_8 (by decide) ?_ ?_
    · refine j_iconst X (-1 : Int32) dX3_trialOf_17 (by rfl) ?_
      refine j_lv [] rfl ?_
      exact hk2 (-1 : Int32)
    · refine j_iload_n X 0 rfl dX3_trialOf_11 rfl ?_
      refine j_iconst X (4 : Int32) dX3_trialOf_12 (by rfl) ?_
      refine j_isub X dX3_trialOf_13 ?_
      refine j_goto X 18 dX3_trialOf_14 (by decide) ?_
      refine j_lv [] rfl ?_
      exact hk2 ((v1 - (4 : Int32)))
def f_X3_decidingRule (S : jS) (b0 : Nat) (p1 : Int32) (a2 : Nat) : Option (jR Unit) := loopK (fun (rec1 : Int32 → Option (jR Unit)) (x2 : Int32) => (if (S b0 2) ≤ x2 then some (0, (-1 : Int32), ()) else chk (inb x2 5) (chk (inb ((S (b0 + 1) x2.toNatClampNeg)) 6) (jbin0 (f_X10_hasBit ((S a2 ((S (b0 + 1) x2.toNatClampNeg)).toNatClampNeg)) p1) (fun v3 _ => (if v3 = (0 : Int32) then letE (x2 + (1 : Int32)) fun x4 => rec1 x4 else some (0, x2, ()))))))) (fun _ => none) 1000 (0 : Int32)
abbrev rm_X3_decidingRule : Room := { frames := 1, cells := 0, slots := 0, locals := 21 }
set_option maxHeartbeats 4000000 in
set_option maxRecDepth 100000 in
theorem c_X3_decidingRule {l : Launch} {D : va_G} {B t0 : Nat} (hl9 : l.stackTraces = false) (S : jS) (X9 : jMem) (z : Nat → Prop) (b0 : Nat) (hb0 : isFlag b0) (p1 : Int32) (a2 : Nat) (ha2 : kIn 0 358 a2 1006) : jCf l D B t0 yX3_decidingRule cX3_decidingRule 4 (some .int) rm_X3_decidingRule [.ref (B + b0), .int p1, .ref (B + a2)] (memG 0 358 D B S X9) z (f_X3_decidingRule S b0 p1 a2) rvI (fun (S9 : Unit) M9 => M9 = memG 0 358 D B S X9) z := by
  refine jC_of hl9 (me_X3_decidingRule).1 [(0, .ref (B + b0)), (1, .int p1), (2, .ref (B + a2))] ⟨by decide +kernel, Nat.le_of_ble_eq_true rfl⟩ rfl (fun κ hl hD hB hT X htab hin => ?_)
  subst hl hD hB hT
  have X : jX κ RX3 cX3_decidingRule 4 (some .int) := X
  unfold f_X3_decidingRule
  refine j_iconst X (0 : Int32) dX3_decidingRule_0 (by rfl) ?_
  refine j_istore_n X [(3, .int (0 : Int32)), (0, .ref (kB κ + b0)), (1, .int p1), (2, .ref (kB κ + a2))] dX3_decidingRule_1 rfl (by decide) rfl ?_
  refine j_lv [1, 2, 3, 0] rfl ?_
  refine j_loop (fun (k : Int32 → Option (jR Unit)) => ∀ (x2 : Int32), J κ 4 rm_X3_decidingRule (jQf κ rm_X3_decidingRule rvI (fun (S9 : Unit) M9 => M9 = memG 0 358 (kD κ) (kB κ) S X9) z) (k x2) (memG 0 358 (kD κ) (kB κ) S X9) z 0 0 [(0, .ref (kB κ + b0)), (1, .int p1), (2, .ref (kB κ + a2)), (3, .int x2)] 2 []) (fun _ => j_none) (fun rec1 hrec1 => ?_) 1000 _
  intro x2
  refine j_iload_n X 3 rfl dX3_decidingRule_2 rfl ?_
  refine j_aload_n X 0 rfl dX3_decidingRule_3 rfl ?_
  refine g_getf X 2 (kFlag hb0).1 cf_X3 (by decide) fl_X3_18 dX3_decidingRule_4 rfl rfl ?_
  refine j_icmp_ge X 33 dX3_decidingRule_7 (by decide) ?_ ?_
  · refine j_iconst X (-1 : Int32) dX3_decidingRule_33 (by rfl) ?_
    exact j_iret X dX3_decidingRule_34 rfl (fun _ h => h)
  · refine j_aload_n X 2 rfl dX3_decidingRule_10 rfl ?_
    refine j_aload_n X 0 rfl dX3_decidingRule_11 rfl ?_
    refine g_getf X 0 (kFlag hb0).1 cf_X3 (by decide) fl_X3_9 dX3_decidingRule_12 rfl rfl ?_
    refine j_iload_n X 3 rfl dX3_decidingRule_15 rfl ?_
    refine g_iald X 5 (kFlag hb0).2.1 (by decide) dX3_decidingRule_16 (fun h9 => ?_)
    refine g_iald X 6 ha2 (by decide) dX3_decidingRule_17 (fun h8 => ?_)
    refine j_iload_n X 1 rfl dX3_decidingRule_18 rfl ?_
    refine j_call0SN X 0 0 (c_X10_hasBit X.tr (memG 0 358 (kD κ) (kB κ) S X9) z ((S a2 ((S (b0 + 1) x2.toNatClampNeg)).toNatClampNeg)) p1) me_X10_hasBit mn_X3_26 st_X10_hasBit dX3_decidingRule_19 (rest := []) rfl rfl (by decide) (by decide) (Nat.le_of_ble_eq_true rfl) (fun v3 u7 M6 hM5 => ?_)
    subst M6
    refine j_st (st1 := [.int v3]) rfl ?_
    refine j_if_eq X 27 dX3_decidingRule_22 (by decide) ?_ ?_
    · refine j_iincL X 3 (fun x4 => [(3, .int x4), (0, .ref (kB κ + b0)), (1, .int p1), (2, .ref (kB κ + a2))]) dX3_decidingRule_27 rfl (by rfl) (by decide) (fun _ => rfl) (fun x4 => ?_)
      refine j_goto X 2 dX3_decidingRule_30 (by decide) ?_
      refine j_lv [1, 2, 3, 0] rfl ?_
      exact hrec1 x4
    · refine j_iload_n X 3 rfl dX3_decidingRule_25 rfl ?_
      exact j_iret X dX3_decidingRule_26 rfl (fun _ h => h)
def f_J7_fill_53178 (S : jS) (a0 n0 : Nat) (p1 : Int32) : Option (jR jS) := letE (Int32.ofNat n0) fun x1 => loopK (fun (rec2 : jS → Int32 → Option (jR jS)) (S3 : jS) (x4 : Int32) => (if x1 ≤ x4 then some (0, (0 : Int32), S3) else chk (inb x4 n0) (letE (jset S3 a0 x4.toNatClampNeg p1) fun S5 => letE (x4 + (1 : Int32)) fun x6 => rec2 S5 x6))) (fun _ _ => none) 1000 S (0 : Int32)
abbrev rm_J7_fill_53178 : Room := { frames := 0, cells := 0, slots := 0, locals := 0 }
set_option maxHeartbeats 4000000 in
set_option maxRecDepth 100000 in
theorem c_J7_fill_53178 {l : Launch} {D : va_G} {B t0 : Nat} (hl9 : l.stackTraces = false) (S : jS) (X9 : jMem) (z : Nat → Prop) (a0 n0 : Nat) (ha0 : kIn 0 358 a0 (1000 + n0)) (hn0 : n0 < 1000) (p1 : Int32) : jCf l D B t0 yJ7_fill_53178 cJ7_fill_53178 4 none rm_J7_fill_53178 [.ref (B + a0), .int p1] (memG 0 358 D B S X9) z (f_J7_fill_53178 S a0 n0 p1) rvV (fun S9 M9 => M9 = memG 0 358 D B S9 X9) z := by
  refine jC_of hl9 (me_J7_fill_53178).1 [(0, .ref (B + a0)), (1, .int p1)] ⟨by decide +kernel, Nat.le_of_ble_eq_true rfl⟩ rfl (fun κ hl hD hB hT X htab hin => ?_)
  subst hl hD hB hT
  have X : jX κ RJ7 cJ7_fill_53178 4 none := X
  unfold f_J7_fill_53178
  refine j_iconst X (0 : Int32) dJ7_fill_53178_0 (by rfl) ?_
  refine j_istore_n X [(2, .int (0 : Int32)), (0, .ref (kB κ + a0)), (1, .int p1)] dJ7_fill_53178_1 rfl (by decide) rfl ?_
  refine j_aload_n X 1 rfl dJ7_fill_53178_2 rfl ?_
  refine j_alen X 0 rfl rfl dJ7_fill_53178_3 ((memG_at ha0).trans (congrArg some (cellK_i (n := n0) hn0 _))) ?_
  refine j_letE (fun x1 => ?_)
  refine j_istore_n X [(3, .int x1), (2, .int (0 : Int32)), (0, .ref (kB κ + a0)), (1, .int p1)] dJ7_fill_53178_4 rfl (by decide) rfl ?_
  refine j_lv [2, 3, 1, 0] rfl ?_
  refine j_loop (fun (k : jS → Int32 → Option (jR jS)) => ∀ (S3 : jS) (x4 : Int32), J κ 4 rm_J7_fill_53178 (jQf κ rm_J7_fill_53178 rvV (fun S9 M9 => M9 = memG 0 358 (kD κ) (kB κ) S9 X9) z) (k S3 x4) (memG 0 358 (kD κ) (kB κ) S3 X9) z 0 0 [(0, .ref (kB κ + a0)), (1, .int p1), (2, .int x4), (3, .int x1)] 5 []) (fun _ _ => j_none) (fun rec2 hrec2 => ?_) 1000 _ _
  intro S3 x4
  refine j_iload_n X 2 rfl dJ7_fill_53178_5 rfl ?_
  refine j_iload_n X 3 rfl dJ7_fill_53178_6 rfl ?_
  refine j_icmp_ge X 20 dJ7_fill_53178_7 (by decide) ?_ ?_
  · exact j_vret X dJ7_fill_53178_20 rfl (fun _ h => h)
  · refine j_aload_n X 0 rfl dJ7_fill_53178_10 rfl ?_
    refine j_iload_n X 2 rfl dJ7_fill_53178_11 rfl ?_
    refine j_iload_n X 1 rfl dJ7_fill_53178_12 rfl ?_
    refine g_iast X n0 ha0 hn0 dJ7_fill_53178_13 (fun h7 S5 => ?_)
    refine j_iincL X 2 (fun x6 => [(2, .int x6), (0, .ref (kB κ + a0)), (1, .int p1), (3, .int x1)]) dJ7_fill_53178_14 rfl (by rfl) (by decide) (fun _ => rfl) (fun x6 => ?_)
    refine j_goto X 5 dJ7_fill_53178_17 (by decide) ?_
    refine j_lv [1, 2, 0, 3] rfl ?_
    exact hrec2 S5 x6
def f_X5_forgetTrial (S : jS) (b0 : Nat) (p1 : Int32) : Option (jR jS) := chk (inb p1 6) (letE (jset S (b0 + 1) p1.toNatClampNeg (-1 : Int32)) fun S1 => chk (inb p1 6) (jbin0 (f_J7_fill_53178 S1 ((b0 + 2) + (1 + p1.toNatClampNeg)) 8 (-1 : Int32)) (fun _ S3 => some (0, (0 : Int32), S3))))
abbrev rm_X5_forgetTrial : Room := { frames := 1, cells := 0, slots := 0, locals := 23 }
set_option maxHeartbeats 4000000 in
set_option maxRecDepth 100000 in
theorem c_X5_forgetTrial {l : Launch} {D : va_G} {B t0 : Nat} (hl9 : l.stackTraces = false) (S : jS) (X9 : jMem) (z : Nat → Prop) (b0 : Nat) (hb0 : isPast b0) (p1 : Int32) : jCf l D B t0 yX5_forgetTrial cX5_forgetTrial 2 none rm_X5_forgetTrial [.ref (B + b0), .int p1] (memG 0 358 D B S X9) z (f_X5_forgetTrial S b0 p1) rvV (fun S9 M9 => M9 = memG 0 358 D B S9 X9) z := by
  refine jC_of hl9 (me_X5_forgetTrial).1 [(0, .ref (B + b0)), (1, .int p1)] ⟨by decide +kernel, Nat.le_of_ble_eq_true rfl⟩ rfl (fun κ hl hD hB hT X htab hin => ?_)
  subst hl hD hB hT
  have X : jX κ RX5 cX5_forgetTrial 2 none := X
  unfold f_X5_forgetTrial
  refine j_aload_n X 0 rfl dX5_forgetTrial_0 rfl ?_
  refine g_getf X 0 (kPast hb0).1 cf_X5 (by decide) fl_X5_9 dX5_forgetTrial_1 rfl rfl ?_
  refine j_iload_n X 1 rfl dX5_forgetTrial_4 rfl ?_
  refine j_iconst X (-1 : Int32) dX5_forgetTrial_5 (by rfl) ?_
  refine g_iast X 6 (kPast hb0).2.1 (by decide) dX5_forgetTrial_6 (fun h7 S1 => ?_)
  refine j_aload_n X 0 rfl dX5_forgetTrial_7 rfl ?_
  refine g_getf X 1 (kPast hb0).1 cf_X5 (by decide) fl_X5_17 dX5_forgetTrial_8 rfl rfl ?_
  refine j_iload_n X 1 rfl dX5_forgetTrial_11 rfl ?_
  refine g_aald X 4 6 (kPast hb0).2.2.1 rfl rfl dX5_forgetTrial_12 rfl rfl (fun h2 => ?_)
  refine j_iconst X (-1 : Int32) dX5_forgetTrial_13 (by rfl) ?_
  refine j_call0S X 0 0 (c_J7_fill_53178 X.tr S1 X9 z ((b0 + 2) + (1 + p1.toNatClampNeg)) 8 ((kPast hb0).2.2.2.2.2.2 _ h2) (by decide) (-1 : Int32)) me_J7_fill_53178 ml_X5_36 st_J7_fill_53178 dX5_forgetTrial_14 (rest := []) rfl rfl (by decide) (by decide) (Nat.le_of_ble_eq_true rfl) (fun v6 S3 M5 hM4 => ?_)
  subst M5
  refine j_st (st1 := []) rfl ?_
  exact j_vret X dX5_forgetTrial_17 rfl (fun _ h => h)
def f_X5_forget (S : jS) (b0 : Nat) : Option (jR jS) := loopK (fun (rec1 : jS → Int32 → Option (jR jS)) (S2 : jS) (x3 : Int32) => (if (6 : Int32) ≤ x3 then jbin0 (f_J7_fill_53178 S2 (b0 + 9) 8 (-1 : Int32)) (fun _ S4 => jbin0 (f_J7_fill_53178 S4 (b0 + 10) 8 (0 : Int32)) (fun _ S5 => jbin0 (f_J7_fill_53178 S5 (b0 + 11) 8 (0 : Int32)) (fun _ S6 => some (0, (0 : Int32), S6)))) else jbin0 (f_X5_forgetTrial S2 b0 x3) (fun _ S16 => letE (x3 + (1 : Int32)) fun x17 => rec1 S16 x17))) (fun _ _ => none) 1000 S (0 : Int32)
abbrev rm_X5_forget : Room := { frames := 2, cells := 0, slots := 0, locals := 44 }
set_option maxHeartbeats 4000000 in
set_option maxRecDepth 100000 in
theorem c_X5_forget {l : Launch} {D : va_G} {B t0 : Nat} (hl9 : l.stackTraces = false) (S : jS) (X9 : jMem) (z : Nat → Prop) (b0 : Nat) (hb0 : isPast b0) : jCf l D B t0 yX5_forget cX5_forget 2 none rm_X5_forget [.ref (B + b0)] (memG 0 358 D B S X9) z (f_X5_forget S b0) rvV (fun S9 M9 => M9 = memG 0 358 D B S9 X9) z := by
  refine jC_of hl9 (me_X5_forget).1 [(0, .ref (B + b0))] ⟨by decide +kernel, Nat.le_of_ble_eq_true rfl⟩ rfl (fun κ hl hD hB hT X htab hin => ?_)
  subst hl hD hB hT
  have X : jX κ RX5 cX5_forget 2 none := X
  unfold f_X5_forget
  refine j_iconst X (0 : Int32) dX5_forget_0 (by rfl) ?_
  refine j_istore_n X [(1, .int (0 : Int32)), (0, .ref (kB κ + b0))] dX5_forget_1 rfl (by decide) rfl ?_
  refine j_lv [1, 0] rfl ?_
  refine j_loop (fun (k : jS → Int32 → Option (jR jS)) => ∀ (S2 : jS) (x3 : Int32), J κ 2 rm_X5_forget (jQf κ rm_X5_forget rvV (fun S9 M9 => M9 = memG 0 358 (kD κ) (kB κ) S9 X9) z) (k S2 x3) (memG 0 358 (kD κ) (kB κ) S2 X9) z 0 0 [(0, .ref (kB κ + b0)), (1, .int x3)] 2 []) (fun _ _ => j_none) (fun rec1 hrec1 => ?_) 1000 _ _
  intro S2 x3
  refine j_iload_n X 1 rfl dX5_forget_2 rfl ?_
  refine j_bipush X (6 : Int32) dX5_forget_3 (by rfl) ?_
  refine j_icmp_ge X 19 dX5_forget_5 (by decide) ?_ ?_
  · refine j_aload_n X 0 rfl dX5_forget_19 rfl ?_
    refine g_getf X 2 (kPast hb0).1 cf_X5 (by decide) fl_X5_20 dX5_forget_20 rfl rfl ?_
    refine j_iconst X (-1 : Int32) dX5_forget_23 (by rfl) ?_
    refine j_call0S X 0 0 (c_J7_fill_53178 X.tr S2 X9 z (b0 + 9) 8 (kPast hb0).2.2.2.1 (by decide) (-1 : Int32)) me_J7_fill_53178 ml_X5_36 st_J7_fill_53178 dX5_forget_24 (rest := []) rfl rfl (by decide) (by decide) (Nat.le_of_ble_eq_true rfl) (fun v15 S4 M14 hM13 => ?_)
    subst M14
    refine j_st (st1 := []) rfl ?_
    refine j_aload_n X 0 rfl dX5_forget_27 rfl ?_
    refine g_getf X 3 (kPast hb0).1 cf_X5 (by decide) fl_X5_23 dX5_forget_28 rfl rfl ?_
    refine j_iconst X (0 : Int32) dX5_forget_31 (by rfl) ?_
    refine j_call0S X 0 0 (c_J7_fill_53178 X.tr S4 X9 z (b0 + 10) 8 (kPast hb0).2.2.2.2.1 (by decide) (0 : Int32)) me_J7_fill_53178 ml_X5_36 st_J7_fill_53178 dX5_forget_32 (rest := []) rfl rfl (by decide) (by decide) (Nat.le_of_ble_eq_true rfl) (fun v12 S5 M11 hM10 => ?_)
    subst M11
    refine j_st (st1 := []) rfl ?_
    refine j_aload_n X 0 rfl dX5_forget_35 rfl ?_
    refine g_getf X 4 (kPast hb0).1 cf_X5 (by decide) fl_X5_26 dX5_forget_36 rfl rfl ?_
    refine j_iconst X (0 : Int32) dX5_forget_39 (by rfl) ?_
    refine j_call0S X 0 0 (c_J7_fill_53178 X.tr S5 X9 z (b0 + 11) 8 (kPast hb0).2.2.2.2.2.1 (by decide) (0 : Int32)) me_J7_fill_53178 ml_X5_36 st_J7_fill_53178 dX5_forget_40 (rest := []) rfl rfl (by decide) (by decide) (Nat.le_of_ble_eq_true rfl) (fun v9 S6 M8 hM7 => ?_)
    subst M8
    refine j_st (st1 := []) rfl ?_
    exact j_vret X dX5_forget_43 rfl (fun _ h => h)
  · refine j_aload_n X 0 rfl dX5_forget_8 rfl ?_
    refine j_iload_n X 1 rfl dX5_forget_9 rfl ?_
    refine j_call0V X 0 0 (c_X5_forgetTrial X.tr S2 X9 z b0 hb0 x3) me_X5_forgetTrial ml_X5_32 iv_X5_forgetTrial cf_X5 dX5_forget_10 (memG_at (kPast hb0).1) (rest := []) rfl rfl (by decide) (by decide) (Nat.le_of_ble_eq_true rfl) (fun v20 S16 M19 hM18 => ?_)
    subst M19
    refine j_st (st1 := []) rfl ?_
    refine j_iincL X 1 (fun x17 => [(1, .int x17), (0, .ref (kB κ + b0))]) dX5_forget_13 rfl (by rfl) (by decide) (fun _ => rfl) (fun x17 => ?_)
    refine j_goto X 2 dX5_forget_16 (by decide) ?_
    refine j_lv [1, 0] rfl ?_
    exact hrec1 S16 x17
def f_X5_noteShowing (S : jS) (b0 : Nat) (e1 : Nat → Int32) : Option (jR jS) := chk (inb (e1 2) 8) (letE (jset S (b0 + 9) (e1 2).toNatClampNeg (e1 4)) fun S1 => joinK (fun (S6 : jS) => some (0, (0 : Int32), S6)) (fun k2 => (if (e1 3) = (-1 : Int32) then k2 S1 else chk (inb (e1 3) 6) (chk (inb (e1 2) 8) (letE (jset S1 ((b0 + 2) + (1 + (e1 3).toNatClampNeg)) (e1 2).toNatClampNeg (e1 4)) fun S4 => k2 S4)))))
abbrev rm_X5_noteShowing : Room := { frames := 0, cells := 0, slots := 0, locals := 0 }
set_option maxHeartbeats 4000000 in
set_option maxRecDepth 100000 in
theorem c_X5_noteShowing {l : Launch} {D : va_G} {B t0 : Nat} (hl9 : l.stackTraces = false) (S : jS) (X9 : jMem) (z : Nat → Prop) (b0 : Nat) (hb0 : isPast b0) (q1 : Nat) (e1 : Nat → Int32) (hq1 : B + 358 ≤ q1) (he1 : X9 q1 = some (entC e1)) : jCf l D B t0 yX5_noteShowing cX5_noteShowing 2 none rm_X5_noteShowing [.ref (B + b0), .ref q1] (memG 0 358 D B S X9) z (f_X5_noteShowing S b0 e1) rvV (fun S9 M9 => M9 = memG 0 358 D B S9 X9) z := by
  refine jC_of hl9 (me_X5_noteShowing).1 [(0, .ref (B + b0)), (1, .ref q1)] ⟨by decide +kernel, Nat.le_of_ble_eq_true rfl⟩ rfl (fun κ hl hD hB hT X htab hin => ?_)
  subst hl hD hB hT
  have X : jX κ RX5 cX5_noteShowing 2 none := X
  unfold f_X5_noteShowing
  refine j_aload_n X 0 rfl dX5_noteShowing_0 rfl ?_
  refine g_getf X 2 (kPast hb0).1 cf_X5 (by decide) fl_X5_20 dX5_noteShowing_1 rfl rfl ?_
  refine j_aload_n X 1 rfl dX5_noteShowing_4 rfl ?_
  refine j_getN X 2 cf_X1 (by decide) fn_X5_58 dX5_noteShowing_5 ((memG_out (Or.inr hq1)).trans he1) rfl ?_
  refine j_aload_n X 1 rfl dX5_noteShowing_8 rfl ?_
  refine j_getN X 4 cf_X1 (by decide) fn_X5_55 dX5_noteShowing_9 ((memG_out (Or.inr hq1)).trans he1) rfl ?_
  refine g_iast X 8 (kPast hb0).2.2.2.1 (by decide) dX5_noteShowing_12 (fun h7 S1 => ?_)
  refine j_aload_n X 1 rfl dX5_noteShowing_13 rfl ?_
  refine j_getN X 3 cf_X1 (by decide) fn_X5_52 dX5_noteShowing_14 ((memG_out (Or.inr hq1)).trans he1) rfl ?_
  refine j_iconst X (-1 : Int32) dX5_noteShowing_17 (by rfl) ?_
  refine j_join (fun k2 => ∀ (S6 : jS), J κ 2 rm_X5_noteShowing (jQf κ rm_X5_noteShowing rvV (fun S9 M9 => M9 = memG 0 358 (kD κ) (kB κ) S9 X9) z) (k2 S6) (memG 0 358 (kD κ) (kB κ) S6 X9) z 0 0 [] 39 []) ?_ (fun k2 hk2 => ?_)
  · intro S6
    exact j_vret X dX5_noteShowing_39 rfl (fun _ h => h)
  · refine j_icmp_eq X 39 dX5_noteShowing_18 (by decide) ?_ ?_
    · refine j_lv [] rfl ?_
      exact hk2 S1
    · refine j_aload_n X 0 rfl dX5_noteShowing_21 rfl ?_
      refine g_getf X 1 (kPast hb0).1 cf_X5 (by decide) fl_X5_17 dX5_noteShowing_22 rfl rfl ?_
      refine j_aload_n X 1 rfl dX5_noteShowing_25 rfl ?_
      refine j_getN X 3 cf_X1 (by decide) fn_X5_52 dX5_noteShowing_26 ((memG_out (Or.inr hq1)).trans he1) rfl ?_
      refine g_aald X 4 6 (kPast hb0).2.2.1 rfl rfl dX5_noteShowing_29 rfl rfl (fun h3 => ?_)
      refine j_aload_n X 1 rfl dX5_noteShowing_30 rfl ?_
      refine j_getN X 2 cf_X1 (by decide) fn_X5_58 dX5_noteShowing_31 ((memG_out (Or.inr hq1)).trans he1) rfl ?_
      refine j_aload_n X 1 rfl dX5_noteShowing_34 rfl ?_
      refine j_getN X 4 cf_X1 (by decide) fn_X5_55 dX5_noteShowing_35 ((memG_out (Or.inr hq1)).trans he1) rfl ?_
      refine g_iast X 8 ((kPast hb0).2.2.2.2.2.2 _ h3) (by decide) dX5_noteShowing_38 (fun h5 S4 => ?_)
      refine j_lv [] rfl ?_
      exact hk2 S4
def f_X5_addHolder (S : jS) (b0 : Nat) (p1 : Int32) (p2 : Int32) (p3 : Int32) : Option (jR jS) := chk (inb p2 8) (joinK (fun (S4 : jS) => chk (inb p2 8) (jbin0 (f_X10_withBit ((S4 (b0 + 10) p2.toNatClampNeg)) p1 (1 : Int32)) (fun v5 _ => chk (inb p2 8) (letE (jset S4 (b0 + 10) p2.toNatClampNeg v5) fun S6 => some (0, (0 : Int32), S6))))) (fun k1 => (if (S (b0 + 10) p2.toNatClampNeg) = (0 : Int32) then chk (inb p2 8) (letE (jset S (b0 + 11) p2.toNatClampNeg p3) fun S2 => k1 S2) else k1 S)))
abbrev rm_X5_addHolder : Room := { frames := 1, cells := 0, slots := 0, locals := 22 }
set_option maxHeartbeats 4000000 in
set_option maxRecDepth 100000 in
theorem c_X5_addHolder {l : Launch} {D : va_G} {B t0 : Nat} (hl9 : l.stackTraces = false) (S : jS) (X9 : jMem) (z : Nat → Prop) (b0 : Nat) (hb0 : isPast b0) (p1 : Int32) (p2 : Int32) (p3 : Int32) : jCf l D B t0 yX5_addHolder cX5_addHolder 4 none rm_X5_addHolder [.ref (B + b0), .int p1, .int p2, .int p3] (memG 0 358 D B S X9) z (f_X5_addHolder S b0 p1 p2 p3) rvV (fun S9 M9 => M9 = memG 0 358 D B S9 X9) z := by
  refine jC_of hl9 (me_X5_addHolder).1 [(0, .ref (B + b0)), (1, .int p1), (2, .int p2), (3, .int p3)] ⟨by decide +kernel, Nat.le_of_ble_eq_true rfl⟩ rfl (fun κ hl hD hB hT X htab hin => ?_)
  subst hl hD hB hT
  have X : jX κ RX5 cX5_addHolder 4 none := X
  unfold f_X5_addHolder
  refine j_aload_n X 0 rfl dX5_addHolder_0 rfl ?_
  refine g_getf X 3 (kPast hb0).1 cf_X5 (by decide) fl_X5_23 dX5_addHolder_1 rfl rfl ?_
  refine j_iload_n X 2 rfl dX5_addHolder_4 rfl ?_
  refine g_iald X 8 (kPast hb0).2.2.2.2.1 (by decide) dX5_addHolder_5 (fun h12 => ?_)
  refine j_join (fun k1 => ∀ (S4 : jS), J κ 4 rm_X5_addHolder (jQf κ rm_X5_addHolder rvV (fun S9 M9 => M9 = memG 0 358 (kD κ) (kB κ) S9 X9) z) (k1 S4) (memG 0 358 (kD κ) (kB κ) S4 X9) z 0 0 [(0, .ref (kB κ + b0)), (1, .int p1), (2, .int p2)] 16 []) ?_ (fun k1 hk1 => ?_)
  · intro S4
    refine j_aload_n X 0 rfl dX5_addHolder_16 rfl ?_
    refine g_getf X 3 (kPast hb0).1 cf_X5 (by decide) fl_X5_23 dX5_addHolder_17 rfl rfl ?_
    refine j_iload_n X 2 rfl dX5_addHolder_20 rfl ?_
    refine j_aload_n X 0 rfl dX5_addHolder_21 rfl ?_
    refine g_getf X 3 (kPast hb0).1 cf_X5 (by decide) fl_X5_23 dX5_addHolder_22 rfl rfl ?_
    refine j_iload_n X 2 rfl dX5_addHolder_25 rfl ?_
    refine g_iald X 8 (kPast hb0).2.2.2.2.1 (by decide) dX5_addHolder_26 (fun h11 => ?_)
    refine j_iload_n X 1 rfl dX5_addHolder_27 rfl ?_
    refine j_iconst X (1 : Int32) dX5_addHolder_28 (by rfl) ?_
    refine j_call0SN X 0 0 (c_X10_withBit X.tr (memG 0 358 (kD κ) (kB κ) S4 X9) z ((S4 (b0 + 10) p2.toNatClampNeg)) p1 (1 : Int32)) me_X10_withBit mn_X5_65 st_X10_withBit dX5_addHolder_29 (rest := [.int p2, .ref (kB κ + (b0 + 10))]) rfl rfl (by decide) (by decide) (Nat.le_of_ble_eq_true rfl) (fun v5 u10 M9 hM8 => ?_)
    subst M9
    refine j_st (st1 := [.int v5, .int p2, .ref (kB κ + (b0 + 10))]) rfl ?_
    refine g_iast X 8 (kPast hb0).2.2.2.2.1 (by decide) dX5_addHolder_32 (fun h7 S6 => ?_)
    exact j_vret X dX5_addHolder_33 rfl (fun _ h => h)
  · refine j_if_ne X 16 dX5_addHolder_6 (by decide) ?_ ?_
    · refine j_aload_n X 0 rfl dX5_addHolder_9 rfl ?_
      refine g_getf X 4 (kPast hb0).1 cf_X5 (by decide) fl_X5_26 dX5_addHolder_10 rfl rfl ?_
      refine j_iload_n X 2 rfl dX5_addHolder_13 rfl ?_
      refine j_iload_n X 3 rfl dX5_addHolder_14 rfl ?_
      refine g_iast X 8 (kPast hb0).2.2.2.2.2.1 (by decide) dX5_addHolder_15 (fun h3 S2 => ?_)
      refine j_lv [0, 1, 2] rfl ?_
      exact hk1 S2
    · refine j_lv [0, 1, 2] rfl ?_
      exact hk1 S
def f_X5_holdWhatWasShownBy (S : jS) (b0 : Nat) (p1 : Int32) : Option (jR jS) := loopK (fun (rec1 : jS → Int32 → Option (jR jS)) (S2 : jS) (x3 : Int32) => (if (8 : Int32) ≤ x3 then some (0, (0 : Int32), S2) else chk (inb p1 6) (chk (inb x3 8) (joinK (fun (S12 : jS) => letE (x3 + (1 : Int32)) fun x13 => rec1 S12 x13) (fun k5 => (if (S2 ((b0 + 2) + (1 + p1.toNatClampNeg)) x3.toNatClampNeg) = (-1 : Int32) then k5 S2 else chk (inb p1 6) (chk (inb x3 8) (jbin0 (f_X5_addHolder S2 b0 p1 x3 ((S2 ((b0 + 2) + (1 + p1.toNatClampNeg)) x3.toNatClampNeg))) (fun _ S7 => k5 S7))))))))) (fun _ _ => none) 1000 S (0 : Int32)
abbrev rm_X5_holdWhatWasShownBy : Room := { frames := 2, cells := 0, slots := 0, locals := 45 }
set_option maxHeartbeats 4000000 in
set_option maxRecDepth 100000 in
theorem c_X5_holdWhatWasShownBy {l : Launch} {D : va_G} {B t0 : Nat} (hl9 : l.stackTraces = false) (S : jS) (X9 : jMem) (z : Nat → Prop) (b0 : Nat) (hb0 : isPast b0) (p1 : Int32) : jCf l D B t0 yX5_holdWhatWasShownBy cX5_holdWhatWasShownBy 3 none rm_X5_holdWhatWasShownBy [.ref (B + b0), .int p1] (memG 0 358 D B S X9) z (f_X5_holdWhatWasShownBy S b0 p1) rvV (fun S9 M9 => M9 = memG 0 358 D B S9 X9) z := by
  refine jC_of hl9 (me_X5_holdWhatWasShownBy).1 [(0, .ref (B + b0)), (1, .int p1)] ⟨by decide +kernel, Nat.le_of_ble_eq_true rfl⟩ rfl (fun κ hl hD hB hT X htab hin => ?_)
  subst hl hD hB hT
  have X : jX κ RX5 cX5_holdWhatWasShownBy 3 none := X
  unfold f_X5_holdWhatWasShownBy
  refine j_iconst X (0 : Int32) dX5_holdWhatWasShownBy_0 (by rfl) ?_
  refine j_istore_n X [(2, .int (0 : Int32)), (0, .ref (kB κ + b0)), (1, .int p1)] dX5_holdWhatWasShownBy_1 rfl (by decide) rfl ?_
  refine j_lv [1, 2, 0] rfl ?_
  refine j_loop (fun (k : jS → Int32 → Option (jR jS)) => ∀ (S2 : jS) (x3 : Int32), J κ 3 rm_X5_holdWhatWasShownBy (jQf κ rm_X5_holdWhatWasShownBy rvV (fun S9 M9 => M9 = memG 0 358 (kD κ) (kB κ) S9 X9) z) (k S2 x3) (memG 0 358 (kD κ) (kB κ) S2 X9) z 0 0 [(0, .ref (kB κ + b0)), (1, .int p1), (2, .int x3)] 2 []) (fun _ _ => j_none) (fun rec1 hrec1 => ?_) 1000 _ _
  intro S2 x3
  refine j_iload_n X 2 rfl dX5_holdWhatWasShownBy_2 rfl ?_
  refine j_bipush X (8 : Int32) dX5_holdWhatWasShownBy_3 (by rfl) ?_
  refine j_icmp_ge X 40 dX5_holdWhatWasShownBy_5 (by decide) ?_ ?_
  · exact j_vret X dX5_holdWhatWasShownBy_40 rfl (fun _ h => h)
  · refine j_aload_n X 0 rfl dX5_holdWhatWasShownBy_8 rfl ?_
    refine g_getf X 1 (kPast hb0).1 cf_X5 (by decide) fl_X5_17 dX5_holdWhatWasShownBy_9 rfl rfl ?_
    refine j_iload_n X 1 rfl dX5_holdWhatWasShownBy_12 rfl ?_
    refine g_aald X 4 6 (kPast hb0).2.2.1 rfl rfl dX5_holdWhatWasShownBy_13 rfl rfl (fun h4 => ?_)
    refine j_iload_n X 2 rfl dX5_holdWhatWasShownBy_14 rfl ?_
    refine g_iald X 8 ((kPast hb0).2.2.2.2.2.2 _ h4) (by decide) dX5_holdWhatWasShownBy_15 (fun h14 => ?_)
    refine j_iconst X (-1 : Int32) dX5_holdWhatWasShownBy_16 (by rfl) ?_
    refine j_join (fun k5 => ∀ (S12 : jS), J κ 3 rm_X5_holdWhatWasShownBy (jQf κ rm_X5_holdWhatWasShownBy rvV (fun S9 M9 => M9 = memG 0 358 (kD κ) (kB κ) S9 X9) z) (k5 S12) (memG 0 358 (kD κ) (kB κ) S12 X9) z 0 0 [(0, .ref (kB κ + b0)), (1, .int p1), (2, .int x3)] 34 []) ?_ (fun k5 hk5 => ?_)
    · intro S12
      refine j_iincL X 2 (fun x13 => [(2, .int x13), (0, .ref (kB κ + b0)), (1, .int p1)]) dX5_holdWhatWasShownBy_34 rfl (by rfl) (by decide) (fun _ => rfl) (fun x13 => ?_)
      refine j_goto X 2 dX5_holdWhatWasShownBy_37 (by decide) ?_
      refine j_lv [1, 2, 0] rfl ?_
      exact hrec1 S12 x13
    · refine j_icmp_eq X 34 dX5_holdWhatWasShownBy_17 (by decide) ?_ ?_
      · exact hk5 S2
      · refine j_aload_n X 0 rfl dX5_holdWhatWasShownBy_20 rfl ?_
        refine j_iload_n X 1 rfl dX5_holdWhatWasShownBy_21 rfl ?_
        refine j_iload_n X 2 rfl dX5_holdWhatWasShownBy_22 rfl ?_
        refine j_aload_n X 0 rfl dX5_holdWhatWasShownBy_23 rfl ?_
        refine g_getf X 1 (kPast hb0).1 cf_X5 (by decide) fl_X5_17 dX5_holdWhatWasShownBy_24 rfl rfl ?_
        refine j_iload_n X 1 rfl dX5_holdWhatWasShownBy_27 rfl ?_
        refine g_aald X 4 6 (kPast hb0).2.2.1 rfl rfl dX5_holdWhatWasShownBy_28 rfl rfl (fun h6 => ?_)
        refine j_iload_n X 2 rfl dX5_holdWhatWasShownBy_29 rfl ?_
        refine g_iald X 8 ((kPast hb0).2.2.2.2.2.2 _ h6) (by decide) dX5_holdWhatWasShownBy_30 (fun h11 => ?_)
        refine j_call0V X 0 0 (c_X5_addHolder X.tr S2 X9 z b0 hb0 p1 x3 ((S2 ((b0 + 2) + (1 + p1.toNatClampNeg)) x3.toNatClampNeg))) me_X5_addHolder ml_X5_61 iv_X5_addHolder cf_X5 dX5_holdWhatWasShownBy_31 (memG_at (kPast hb0).1) (rest := []) rfl rfl (by decide) (by decide) (Nat.le_of_ble_eq_true rfl) (fun v10 S7 M9 hM8 => ?_)
        subst M9
        refine j_st (st1 := []) rfl ?_
        exact hk5 S7
def f_X5_releaseAllOf (S : jS) (b0 : Nat) (p1 : Int32) : Option (jR jS) := loopK (fun (rec1 : jS → Int32 → Option (jR jS)) (S2 : jS) (x3 : Int32) => (if (8 : Int32) ≤ x3 then some (0, (0 : Int32), S2) else chk (inb x3 8) (jbin0 (f_X10_withBit ((S2 (b0 + 10) x3.toNatClampNeg)) p1 (0 : Int32)) (fun v4 _ => chk (inb x3 8) (letE (jset S2 (b0 + 10) x3.toNatClampNeg v4) fun S5 => letE (x3 + (1 : Int32)) fun x6 => rec1 S5 x6))))) (fun _ _ => none) 1000 S (0 : Int32)
abbrev rm_X5_releaseAllOf : Room := { frames := 1, cells := 0, slots := 0, locals := 22 }
set_option maxHeartbeats 4000000 in
set_option maxRecDepth 100000 in
theorem c_X5_releaseAllOf {l : Launch} {D : va_G} {B t0 : Nat} (hl9 : l.stackTraces = false) (S : jS) (X9 : jMem) (z : Nat → Prop) (b0 : Nat) (hb0 : isPast b0) (p1 : Int32) : jCf l D B t0 yX5_releaseAllOf cX5_releaseAllOf 3 none rm_X5_releaseAllOf [.ref (B + b0), .int p1] (memG 0 358 D B S X9) z (f_X5_releaseAllOf S b0 p1) rvV (fun S9 M9 => M9 = memG 0 358 D B S9 X9) z := by
  refine jC_of hl9 (me_X5_releaseAllOf).1 [(0, .ref (B + b0)), (1, .int p1)] ⟨by decide +kernel, Nat.le_of_ble_eq_true rfl⟩ rfl (fun κ hl hD hB hT X htab hin => ?_)
  subst hl hD hB hT
  have X : jX κ RX5 cX5_releaseAllOf 3 none := X
  unfold f_X5_releaseAllOf
  refine j_iconst X (0 : Int32) dX5_releaseAllOf_0 (by rfl) ?_
  refine j_istore_n X [(2, .int (0 : Int32)), (0, .ref (kB κ + b0)), (1, .int p1)] dX5_releaseAllOf_1 rfl (by decide) rfl ?_
  refine j_lv [1, 2, 0] rfl ?_
  refine j_loop (fun (k : jS → Int32 → Option (jR jS)) => ∀ (S2 : jS) (x3 : Int32), J κ 3 rm_X5_releaseAllOf (jQf κ rm_X5_releaseAllOf rvV (fun S9 M9 => M9 = memG 0 358 (kD κ) (kB κ) S9 X9) z) (k S2 x3) (memG 0 358 (kD κ) (kB κ) S2 X9) z 0 0 [(0, .ref (kB κ + b0)), (1, .int p1), (2, .int x3)] 2 []) (fun _ _ => j_none) (fun rec1 hrec1 => ?_) 1000 _ _
  intro S2 x3
  refine j_iload_n X 2 rfl dX5_releaseAllOf_2 rfl ?_
  refine j_bipush X (8 : Int32) dX5_releaseAllOf_3 (by rfl) ?_
  refine j_icmp_ge X 31 dX5_releaseAllOf_5 (by decide) ?_ ?_
  · exact j_vret X dX5_releaseAllOf_31 rfl (fun _ h => h)
  · refine j_aload_n X 0 rfl dX5_releaseAllOf_8 rfl ?_
    refine g_getf X 3 (kPast hb0).1 cf_X5 (by decide) fl_X5_23 dX5_releaseAllOf_9 rfl rfl ?_
    refine j_iload_n X 2 rfl dX5_releaseAllOf_12 rfl ?_
    refine j_aload_n X 0 rfl dX5_releaseAllOf_13 rfl ?_
    refine g_getf X 3 (kPast hb0).1 cf_X5 (by decide) fl_X5_23 dX5_releaseAllOf_14 rfl rfl ?_
    refine j_iload_n X 2 rfl dX5_releaseAllOf_17 rfl ?_
    refine g_iald X 8 (kPast hb0).2.2.2.2.1 (by decide) dX5_releaseAllOf_18 (fun h11 => ?_)
    refine j_iload_n X 1 rfl dX5_releaseAllOf_19 rfl ?_
    refine j_iconst X (0 : Int32) dX5_releaseAllOf_20 (by rfl) ?_
    refine j_call0SN X 0 0 (c_X10_withBit X.tr (memG 0 358 (kD κ) (kB κ) S2 X9) z ((S2 (b0 + 10) x3.toNatClampNeg)) p1 (0 : Int32)) me_X10_withBit mn_X5_65 st_X10_withBit dX5_releaseAllOf_21 (rest := [.int x3, .ref (kB κ + (b0 + 10))]) rfl rfl (by decide) (by decide) (Nat.le_of_ble_eq_true rfl) (fun v4 u10 M9 hM8 => ?_)
    subst M9
    refine j_st (st1 := [.int v4, .int x3, .ref (kB κ + (b0 + 10))]) rfl ?_
    refine g_iast X 8 (kPast hb0).2.2.2.2.1 (by decide) dX5_releaseAllOf_24 (fun h7 S5 => ?_)
    refine j_iincL X 2 (fun x6 => [(2, .int x6), (0, .ref (kB κ + b0)), (1, .int p1)]) dX5_releaseAllOf_25 rfl (by rfl) (by decide) (fun _ => rfl) (fun x6 => ?_)
    refine j_goto X 2 dX5_releaseAllOf_28 (by decide) ?_
    refine j_lv [1, 2, 0] rfl ?_
    exact hrec1 S5 x6
def f_X5_take (S : jS) (b0 : Nat) (e1 : Nat → Int32) : Option (jR jS) := joinK (fun (S35 : jS) => some (0, (0 : Int32), S35)) (fun k1 => (if (e1 0) = (0 : Int32) then jbin0 (f_X5_noteShowing S b0 e1) (fun _ S2 => k1 S2) else (if (e1 0) = (1 : Int32) then jbin0 (f_X5_noteShowing S b0 e1) (fun _ S6 => chk (inb (e1 3) 6) (letE (jset S6 (b0 + 1) (e1 3).toNatClampNeg (e1 4)) fun S7 => k1 S7)) else (if (e1 0) = (2 : Int32) then jbin0 (f_X5_addHolder S b0 (6 : Int32) (e1 2) (e1 4)) (fun _ S12 => k1 S12) else (if (e1 0) = (3 : Int32) then chk (inb (e1 2) 8) (jbin0 (f_X10_withBit ((S (b0 + 10) (e1 2).toNatClampNeg)) (6 : Int32) (0 : Int32)) (fun v16 _ => chk (inb (e1 2) 8) (letE (jset S (b0 + 10) (e1 2).toNatClampNeg v16) fun S17 => k1 S17))) else (if (e1 0) = (4 : Int32) then jbin0 (f_X5_holdWhatWasShownBy S b0 (e1 3)) (fun _ S23 => k1 S23) else (if (e1 0) = (5 : Int32) then jbin0 (f_X5_releaseAllOf S b0 (e1 3)) (fun _ S27 => k1 S27) else jbin0 (f_X5_forgetTrial S b0 (e1 3)) (fun _ S31 => k1 S31))))))))
abbrev rm_X5_take : Room := { frames := 3, cells := 0, slots := 0, locals := 67 }
set_option maxHeartbeats 4000000 in
set_option maxRecDepth 100000 in
theorem c_X5_take {l : Launch} {D : va_G} {B t0 : Nat} (hl9 : l.stackTraces = false) (S : jS) (X9 : jMem) (z : Nat → Prop) (b0 : Nat) (hb0 : isPast b0) (q1 : Nat) (e1 : Nat → Int32) (hq1 : B + 358 ≤ q1) (he1 : X9 q1 = some (entC e1)) : jCf l D B t0 yX5_take cX5_take 2 none rm_X5_take [.ref (B + b0), .ref q1] (memG 0 358 D B S X9) z (f_X5_take S b0 e1) rvV (fun S9 M9 => M9 = memG 0 358 D B S9 X9) z := by
  refine jC_of hl9 (me_X5_take).1 [(0, .ref (B + b0)), (1, .ref q1)] ⟨by decide +kernel, Nat.le_of_ble_eq_true rfl⟩ rfl (fun κ hl hD hB hT X htab hin => ?_)
  subst hl hD hB hT
  have X : jX κ RX5 cX5_take 2 none := X
  unfold f_X5_take
  refine j_aload_n X 1 rfl dX5_take_0 rfl ?_
  refine j_getN X 0 cf_X1 (by decide) fn_X5_42 dX5_take_1 ((memG_out (Or.inr hq1)).trans he1) rfl ?_
  refine j_join (fun k1 => ∀ (S35 : jS), J κ 2 rm_X5_take (jQf κ rm_X5_take rvV (fun S9 M9 => M9 = memG 0 358 (kD κ) (kB κ) S9 X9) z) (k1 S35) (memG 0 358 (kD κ) (kB κ) S35 X9) z 0 0 [] 147 []) ?_ (fun k1 hk1 => ?_)
  · intro S35
    exact j_vret X dX5_take_147 rfl (fun _ h => h)
  · refine j_ite (fun hc4_0 => ?_) (fun hc4_0 => ?_)
    · refine j_table (off := 40) X 44 dX5_take_4 (by rw [hc4_0]; decide) (by rw [hc4_0]; decide) (by rw [hc4_0]; rfl) (by decide) ?_
      refine j_aload_n X 0 rfl dX5_take_44 rfl ?_
      refine j_aload_n X 1 rfl dX5_take_45 rfl ?_
      refine j_call0V X 0 0 (c_X5_noteShowing X.tr S X9 z b0 hb0 q1 e1 hq1 he1) me_X5_noteShowing ml_X5_48 iv_X5_noteShowing cf_X5 dX5_take_46 (memG_at (kPast hb0).1) (rest := []) rfl rfl (by decide) (by decide) (Nat.le_of_ble_eq_true rfl) (fun v5 S2 M4 hM3 => ?_)
      subst M4
      refine j_st (st1 := []) rfl ?_
      refine j_goto X 147 dX5_take_49 (by decide) ?_
      refine j_lv [] rfl ?_
      exact hk1 S2
    · refine j_ite (fun hc4_1 => ?_) (fun hc4_1 => ?_)
      · refine j_table (off := 48) X 52 dX5_take_4 (by rw [hc4_1]; decide) (by rw [hc4_1]; decide) (by rw [hc4_1]; rfl) (by decide) ?_
        refine j_aload_n X 0 rfl dX5_take_52 rfl ?_
        refine j_aload_n X 1 rfl dX5_take_53 rfl ?_
        refine j_call0V X 0 0 (c_X5_noteShowing X.tr S X9 z b0 hb0 q1 e1 hq1 he1) me_X5_noteShowing ml_X5_48 iv_X5_noteShowing cf_X5 dX5_take_54 (memG_at (kPast hb0).1) (rest := []) rfl rfl (by decide) (by decide) (Nat.le_of_ble_eq_true rfl) (fun v11 S6 M10 hM9 => ?_)
        subst M10
        refine j_st (st1 := []) rfl ?_
        refine j_aload_n X 0 rfl dX5_take_57 rfl ?_
        refine g_getf X 0 (kPast hb0).1 cf_X5 (by decide) fl_X5_9 dX5_take_58 rfl rfl ?_
        refine j_aload_n X 1 rfl dX5_take_61 rfl ?_
        refine j_getN X 3 cf_X1 (by decide) fn_X5_52 dX5_take_62 ((memG_out (Or.inr hq1)).trans he1) rfl ?_
        refine j_aload_n X 1 rfl dX5_take_65 rfl ?_
        refine j_getN X 4 cf_X1 (by decide) fn_X5_55 dX5_take_66 ((memG_out (Or.inr hq1)).trans he1) rfl ?_
        refine g_iast X 6 (kPast hb0).2.1 (by decide) dX5_take_69 (fun h8 S7 => ?_)
        refine j_goto X 147 dX5_take_70 (by decide) ?_
        refine j_lv [] rfl ?_
        exact hk1 S7
      · refine j_ite (fun hc4_2 => ?_) (fun hc4_2 => ?_)
        · refine j_table (off := 69) X 73 dX5_take_4 (by rw [hc4_2]; decide) (by rw [hc4_2]; decide) (by rw [hc4_2]; rfl) (by decide) ?_
          refine j_aload_n X 0 rfl dX5_take_73 rfl ?_
          refine j_bipush X (6 : Int32) dX5_take_74 (by rfl) ?_
          refine j_aload_n X 1 rfl dX5_take_76 rfl ?_
          refine j_getN X 2 cf_X1 (by decide) fn_X5_58 dX5_take_77 ((memG_out (Or.inr hq1)).trans he1) rfl ?_
          refine j_aload_n X 1 rfl dX5_take_80 rfl ?_
          refine j_getN X 4 cf_X1 (by decide) fn_X5_55 dX5_take_81 ((memG_out (Or.inr hq1)).trans he1) rfl ?_
          refine j_call0V X 0 0 (c_X5_addHolder X.tr S X9 z b0 hb0 (6 : Int32) (e1 2) (e1 4)) me_X5_addHolder ml_X5_61 iv_X5_addHolder cf_X5 dX5_take_84 (memG_at (kPast hb0).1) (rest := []) rfl rfl (by decide) (by decide) (Nat.le_of_ble_eq_true rfl) (fun v15 S12 M14 hM13 => ?_)
          subst M14
          refine j_st (st1 := []) rfl ?_
          refine j_goto X 147 dX5_take_87 (by decide) ?_
          refine j_lv [] rfl ?_
          exact hk1 S12
        · refine j_ite (fun hc4_3 => ?_) (fun hc4_3 => ?_)
          · refine j_table (off := 86) X 90 dX5_take_4 (by rw [hc4_3]; decide) (by rw [hc4_3]; decide) (by rw [hc4_3]; rfl) (by decide) ?_
            refine j_aload_n X 0 rfl dX5_take_90 rfl ?_
            refine g_getf X 3 (kPast hb0).1 cf_X5 (by decide) fl_X5_23 dX5_take_91 rfl rfl ?_
            refine j_aload_n X 1 rfl dX5_take_94 rfl ?_
            refine j_getN X 2 cf_X1 (by decide) fn_X5_58 dX5_take_95 ((memG_out (Or.inr hq1)).trans he1) rfl ?_
            refine j_aload_n X 0 rfl dX5_take_98 rfl ?_
            refine g_getf X 3 (kPast hb0).1 cf_X5 (by decide) fl_X5_23 dX5_take_99 rfl rfl ?_
            refine j_aload_n X 1 rfl dX5_take_102 rfl ?_
            refine j_getN X 2 cf_X1 (by decide) fn_X5_58 dX5_take_103 ((memG_out (Or.inr hq1)).trans he1) rfl ?_
            refine g_iald X 8 (kPast hb0).2.2.2.2.1 (by decide) dX5_take_106 (fun h22 => ?_)
            refine j_bipush X (6 : Int32) dX5_take_107 (by rfl) ?_
            refine j_iconst X (0 : Int32) dX5_take_109 (by rfl) ?_
            refine j_call0SN X 0 0 (c_X10_withBit X.tr (memG 0 358 (kD κ) (kB κ) S X9) z ((S (b0 + 10) (e1 2).toNatClampNeg)) (6 : Int32) (0 : Int32)) me_X10_withBit mn_X5_65 st_X10_withBit dX5_take_110 (rest := [.int (e1 2), .ref (kB κ + (b0 + 10))]) rfl rfl (by decide) (by decide) (Nat.le_of_ble_eq_true rfl) (fun v16 u21 M20 hM19 => ?_)
            subst M20
            refine j_st (st1 := [.int v16, .int (e1 2), .ref (kB κ + (b0 + 10))]) rfl ?_
            refine g_iast X 8 (kPast hb0).2.2.2.2.1 (by decide) dX5_take_113 (fun h18 S17 => ?_)
            refine j_goto X 147 dX5_take_114 (by decide) ?_
            refine j_lv [] rfl ?_
            exact hk1 S17
          · refine j_ite (fun hc4_4 => ?_) (fun hc4_4 => ?_)
            · refine j_table (off := 113) X 117 dX5_take_4 (by rw [hc4_4]; decide) (by rw [hc4_4]; decide) (by rw [hc4_4]; rfl) (by decide) ?_
              refine j_aload_n X 0 rfl dX5_take_117 rfl ?_
              refine j_aload_n X 1 rfl dX5_take_118 rfl ?_
              refine j_getN X 3 cf_X1 (by decide) fn_X5_52 dX5_take_119 ((memG_out (Or.inr hq1)).trans he1) rfl ?_
              refine j_call0V X 0 0 (c_X5_holdWhatWasShownBy X.tr S X9 z b0 hb0 (e1 3)) me_X5_holdWhatWasShownBy ml_X5_69 iv_X5_holdWhatWasShownBy cf_X5 dX5_take_122 (memG_at (kPast hb0).1) (rest := []) rfl rfl (by decide) (by decide) (Nat.le_of_ble_eq_true rfl) (fun v26 S23 M25 hM24 => ?_)
              subst M25
              refine j_st (st1 := []) rfl ?_
              refine j_goto X 147 dX5_take_125 (by decide) ?_
              refine j_lv [] rfl ?_
              exact hk1 S23
            · refine j_ite (fun hc4_5 => ?_) (fun hc4_5 => ?_)
              · refine j_table (off := 124) X 128 dX5_take_4 (by rw [hc4_5]; decide) (by rw [hc4_5]; decide) (by rw [hc4_5]; rfl) (by decide) ?_
                refine j_aload_n X 0 rfl dX5_take_128 rfl ?_
                refine j_aload_n X 1 rfl dX5_take_129 rfl ?_
                refine j_getN X 3 cf_X1 (by decide) fn_X5_52 dX5_take_130 ((memG_out (Or.inr hq1)).trans he1) rfl ?_
                refine j_call0V X 0 0 (c_X5_releaseAllOf X.tr S X9 z b0 hb0 (e1 3)) me_X5_releaseAllOf ml_X5_72 iv_X5_releaseAllOf cf_X5 dX5_take_133 (memG_at (kPast hb0).1) (rest := []) rfl rfl (by decide) (by decide) (Nat.le_of_ble_eq_true rfl) (fun v30 S27 M29 hM28 => ?_)
                subst M29
                refine j_st (st1 := []) rfl ?_
                refine j_goto X 147 dX5_take_136 (by decide) ?_
                refine j_lv [] rfl ?_
                exact hk1 S27
              · refine j_tableD X 139 dX5_take_4 (by have q0 := j_ne hc4_0 (a := 0) rfl; have q1 := j_ne hc4_1 (a := 1) rfl; have q2 := j_ne hc4_2 (a := 2) rfl; have q3 := j_ne hc4_3 (a := 3) rfl; have q4 := j_ne hc4_4 (a := 4) rfl; have q5 := j_ne hc4_5 (a := 5) rfl; omega) (by decide) ?_
                refine j_aload_n X 0 rfl dX5_take_139 rfl ?_
                refine j_aload_n X 1 rfl dX5_take_140 rfl ?_
                refine j_getN X 3 cf_X1 (by decide) fn_X5_52 dX5_take_141 ((memG_out (Or.inr hq1)).trans he1) rfl ?_
                refine j_call0V X 0 0 (c_X5_forgetTrial X.tr S X9 z b0 hb0 (e1 3)) me_X5_forgetTrial ml_X5_32 iv_X5_forgetTrial cf_X5 dX5_take_144 (memG_at (kPast hb0).1) (rest := []) rfl rfl (by decide) (by decide) (Nat.le_of_ble_eq_true rfl) (fun v34 S31 M33 hM32 => ?_)
                subst M33
                refine j_st (st1 := []) rfl ?_
                refine j_lv [] rfl ?_
                exact hk1 S31
def f_X5_countHeldBy (S : jS) (b0 : Nat) (p1 : Int32) : Option (jR Unit) := loopK (fun (rec1 : Int32 → Int32 → Option (jR Unit)) (x2 : Int32) (x3 : Int32) => (if (8 : Int32) ≤ x3 then some (0, x2, ()) else chk (inb x3 8) (jbin0 (f_X10_hasBit ((S (b0 + 10) x3.toNatClampNeg)) p1) (fun v4 _ => joinK (fun (x6 : Int32) => letE (x2 + x6) fun x7 => letE (x3 + (1 : Int32)) fun x8 => rec1 x7 x8) (fun k5 => (if v4 = (0 : Int32) then k5 (0 : Int32) else k5 (1 : Int32))))))) (fun _ _ => none) 1000 (0 : Int32) (0 : Int32)
abbrev rm_X5_countHeldBy : Room := { frames := 1, cells := 0, slots := 0, locals := 21 }
set_option maxHeartbeats 4000000 in
set_option maxRecDepth 100000 in
theorem c_X5_countHeldBy {l : Launch} {D : va_G} {B t0 : Nat} (hl9 : l.stackTraces = false) (S : jS) (X9 : jMem) (z : Nat → Prop) (b0 : Nat) (hb0 : isPast b0) (p1 : Int32) : jCf l D B t0 yX5_countHeldBy cX5_countHeldBy 4 (some .int) rm_X5_countHeldBy [.ref (B + b0), .int p1] (memG 0 358 D B S X9) z (f_X5_countHeldBy S b0 p1) rvI (fun (S9 : Unit) M9 => M9 = memG 0 358 D B S X9) z := by
  refine jC_of hl9 (me_X5_countHeldBy).1 [(0, .ref (B + b0)), (1, .int p1)] ⟨by decide +kernel, Nat.le_of_ble_eq_true rfl⟩ rfl (fun κ hl hD hB hT X htab hin => ?_)
  subst hl hD hB hT
  have X : jX κ RX5 cX5_countHeldBy 4 (some .int) := X
  unfold f_X5_countHeldBy
  refine j_iconst X (0 : Int32) dX5_countHeldBy_0 (by rfl) ?_
  refine j_istore_n X [(2, .int (0 : Int32)), (0, .ref (kB κ + b0)), (1, .int p1)] dX5_countHeldBy_1 rfl (by decide) rfl ?_
  refine j_iconst X (0 : Int32) dX5_countHeldBy_2 (by rfl) ?_
  refine j_istore_n X [(3, .int (0 : Int32)), (2, .int (0 : Int32)), (0, .ref (kB κ + b0)), (1, .int p1)] dX5_countHeldBy_3 rfl (by decide) rfl ?_
  refine j_lv [2, 3, 1, 0] rfl ?_
  refine j_loop (fun (k : Int32 → Int32 → Option (jR Unit)) => ∀ (x2 : Int32) (x3 : Int32), J κ 4 rm_X5_countHeldBy (jQf κ rm_X5_countHeldBy rvI (fun (S9 : Unit) M9 => M9 = memG 0 358 (kD κ) (kB κ) S X9) z) (k x2 x3) (memG 0 358 (kD κ) (kB κ) S X9) z 0 0 [(0, .ref (kB κ + b0)), (1, .int p1), (2, .int x2), (3, .int x3)] 4 []) (fun _ _ => j_none) (fun rec1 hrec1 => ?_) 1000 _ _
  intro x2 x3
  refine j_iload_n X 3 rfl dX5_countHeldBy_4 rfl ?_
  refine j_bipush X (8 : Int32) dX5_countHeldBy_5 (by rfl) ?_
  refine j_icmp_ge X 37 dX5_countHeldBy_7 (by decide) ?_ ?_
  · refine j_iload_n X 2 rfl dX5_countHeldBy_37 rfl ?_
    exact j_iret X dX5_countHeldBy_38 rfl (fun _ h => h)
  · refine j_iload_n X 2 rfl dX5_countHeldBy_10 rfl ?_
    refine j_aload_n X 0 rfl dX5_countHeldBy_11 rfl ?_
    refine g_getf X 3 (kPast hb0).1 cf_X5 (by decide) fl_X5_23 dX5_countHeldBy_12 rfl rfl ?_
    refine j_iload_n X 3 rfl dX5_countHeldBy_15 rfl ?_
    refine g_iald X 8 (kPast hb0).2.2.2.2.1 (by decide) dX5_countHeldBy_16 (fun h12 => ?_)
    refine j_iload_n X 1 rfl dX5_countHeldBy_17 rfl ?_
    refine j_call0SN X 0 0 (c_X10_hasBit X.tr (memG 0 358 (kD κ) (kB κ) S X9) z ((S (b0 + 10) x3.toNatClampNeg)) p1) me_X10_hasBit mn_X5_75 st_X10_hasBit dX5_countHeldBy_18 (rest := [.int x2]) rfl rfl (by decide) (by decide) (Nat.le_of_ble_eq_true rfl) (fun v4 u11 M10 hM9 => ?_)
    subst M10
    refine j_st (st1 := [.int v4, .int x2]) rfl ?_
    refine j_join (fun k5 => ∀ (x6 : Int32), J κ 4 rm_X5_countHeldBy (jQf κ rm_X5_countHeldBy rvI (fun (S9 : Unit) M9 => M9 = memG 0 358 (kD κ) (kB κ) S X9) z) (k5 x6) (memG 0 358 (kD κ) (kB κ) S X9) z 0 0 [(0, .ref (kB κ + b0)), (1, .int p1), (3, .int x3)] 29 [.int x6, .int x2]) ?_ (fun k5 hk5 => ?_)
    · intro x6
      refine j_iadd X dX5_countHeldBy_29 ?_
      refine j_letE (fun x7 => ?_)
      refine j_istore_n X [(2, .int x7), (0, .ref (kB κ + b0)), (1, .int p1), (3, .int x3)] dX5_countHeldBy_30 rfl (by decide) rfl ?_
      refine j_iincL X 3 (fun x8 => [(3, .int x8), (2, .int x7), (0, .ref (kB κ + b0)), (1, .int p1)]) dX5_countHeldBy_31 rfl (by rfl) (by decide) (fun _ => rfl) (fun x8 => ?_)
      refine j_goto X 4 dX5_countHeldBy_34 (by decide) ?_
      refine j_lv [2, 3, 1, 0] rfl ?_
      exact hrec1 x7 x8
    · refine j_if_eq X 28 dX5_countHeldBy_21 (by decide) ?_ ?_
      · refine j_iconst X (0 : Int32) dX5_countHeldBy_28 (by rfl) ?_
        refine j_lv [0, 1, 3] rfl ?_
        exact hk5 (0 : Int32)
      · refine j_iconst X (1 : Int32) dX5_countHeldBy_24 (by rfl) ?_
        refine j_goto X 29 dX5_countHeldBy_25 (by decide) ?_
        refine j_lv [0, 1, 3] rfl ?_
        exact hk5 (1 : Int32)
def f_X5_countHeldOnlyBy (S : jS) (b0 : Nat) (p1 : Int32) : Option (jR Unit) := loopK (fun (rec1 : Int32 → Int32 → Option (jR Unit)) (x2 : Int32) (x3 : Int32) => (if (8 : Int32) ≤ x3 then some (0, x2, ()) else chk (inb x3 8) (joinK (fun (x5 : Int32) => letE (x2 + x5) fun x6 => letE (x3 + (1 : Int32)) fun x7 => rec1 x6 x7) (fun k4 => (if (S (b0 + 10) x3.toNatClampNeg) = ((1 : Int32) <<< (p1 &&& 31)) then k4 (1 : Int32) else k4 (0 : Int32)))))) (fun _ _ => none) 1000 (0 : Int32) (0 : Int32)
abbrev rm_X5_countHeldOnlyBy : Room := { frames := 0, cells := 0, slots := 0, locals := 0 }
set_option maxHeartbeats 4000000 in
set_option maxRecDepth 100000 in
theorem c_X5_countHeldOnlyBy {l : Launch} {D : va_G} {B t0 : Nat} (hl9 : l.stackTraces = false) (S : jS) (X9 : jMem) (z : Nat → Prop) (b0 : Nat) (hb0 : isPast b0) (p1 : Int32) : jCf l D B t0 yX5_countHeldOnlyBy cX5_countHeldOnlyBy 4 (some .int) rm_X5_countHeldOnlyBy [.ref (B + b0), .int p1] (memG 0 358 D B S X9) z (f_X5_countHeldOnlyBy S b0 p1) rvI (fun (S9 : Unit) M9 => M9 = memG 0 358 D B S X9) z := by
  refine jC_of hl9 (me_X5_countHeldOnlyBy).1 [(0, .ref (B + b0)), (1, .int p1)] ⟨by decide +kernel, Nat.le_of_ble_eq_true rfl⟩ rfl (fun κ hl hD hB hT X htab hin => ?_)
  subst hl hD hB hT
  have X : jX κ RX5 cX5_countHeldOnlyBy 4 (some .int) := X
  unfold f_X5_countHeldOnlyBy
  refine j_iconst X (0 : Int32) dX5_countHeldOnlyBy_0 (by rfl) ?_
  refine j_istore_n X [(2, .int (0 : Int32)), (0, .ref (kB κ + b0)), (1, .int p1)] dX5_countHeldOnlyBy_1 rfl (by decide) rfl ?_
  refine j_iconst X (0 : Int32) dX5_countHeldOnlyBy_2 (by rfl) ?_
  refine j_istore_n X [(3, .int (0 : Int32)), (2, .int (0 : Int32)), (0, .ref (kB κ + b0)), (1, .int p1)] dX5_countHeldOnlyBy_3 rfl (by decide) rfl ?_
  refine j_lv [2, 3, 1, 0] rfl ?_
  refine j_loop (fun (k : Int32 → Int32 → Option (jR Unit)) => ∀ (x2 : Int32) (x3 : Int32), J κ 4 rm_X5_countHeldOnlyBy (jQf κ rm_X5_countHeldOnlyBy rvI (fun (S9 : Unit) M9 => M9 = memG 0 358 (kD κ) (kB κ) S X9) z) (k x2 x3) (memG 0 358 (kD κ) (kB κ) S X9) z 0 0 [(0, .ref (kB κ + b0)), (1, .int p1), (2, .int x2), (3, .int x3)] 4 []) (fun _ _ => j_none) (fun rec1 hrec1 => ?_) 1000 _ _
  intro x2 x3
  refine j_iload_n X 3 rfl dX5_countHeldOnlyBy_4 rfl ?_
  refine j_bipush X (8 : Int32) dX5_countHeldOnlyBy_5 (by rfl) ?_
  refine j_icmp_ge X 36 dX5_countHeldOnlyBy_7 (by decide) ?_ ?_
  · refine j_iload_n X 2 rfl dX5_countHeldOnlyBy_36 rfl ?_
    exact j_iret X dX5_countHeldOnlyBy_37 rfl (fun _ h => h)
  · refine j_iload_n X 2 rfl dX5_countHeldOnlyBy_10 rfl ?_
    refine j_aload_n X 0 rfl dX5_countHeldOnlyBy_11 rfl ?_
    refine g_getf X 3 (kPast hb0).1 cf_X5 (by decide) fl_X5_23 dX5_countHeldOnlyBy_12 rfl rfl ?_
    refine j_iload_n X 3 rfl dX5_countHeldOnlyBy_15 rfl ?_
    refine g_iald X 8 (kPast hb0).2.2.2.2.1 (by decide) dX5_countHeldOnlyBy_16 (fun h8 => ?_)
    refine j_iconst X (1 : Int32) dX5_countHeldOnlyBy_17 (by rfl) ?_
    refine j_iload_n X 1 rfl dX5_countHeldOnlyBy_18 rfl ?_
    refine j_ishl X dX5_countHeldOnlyBy_19 ?_
    refine j_join (fun k4 => ∀ (x5 : Int32), J κ 4 rm_X5_countHeldOnlyBy (jQf κ rm_X5_countHeldOnlyBy rvI (fun (S9 : Unit) M9 => M9 = memG 0 358 (kD κ) (kB κ) S X9) z) (k4 x5) (memG 0 358 (kD κ) (kB κ) S X9) z 0 0 [(0, .ref (kB κ + b0)), (1, .int p1), (3, .int x3)] 28 [.int x5, .int x2]) ?_ (fun k4 hk4 => ?_)
    · intro x5
      refine j_iadd X dX5_countHeldOnlyBy_28 ?_
      refine j_letE (fun x6 => ?_)
      refine j_istore_n X [(2, .int x6), (0, .ref (kB κ + b0)), (1, .int p1), (3, .int x3)] dX5_countHeldOnlyBy_29 rfl (by decide) rfl ?_
      refine j_iincL X 3 (fun x7 => [(3, .int x7), (2, .int x6), (0, .ref (kB κ + b0)), (1, .int p1)]) dX5_countHeldOnlyBy_30 rfl (by rfl) (by decide) (fun _ => rfl) (fun x7 => ?_)
      refine j_goto X 4 dX5_countHeldOnlyBy_33 (by decide) ?_
      refine j_lv [2, 3, 1, 0] rfl ?_
      exact hrec1 x6 x7
    · refine j_icmp_ne X 27 dX5_countHeldOnlyBy_20 (by decide) ?_ ?_
      · refine j_iconst X (1 : Int32) dX5_countHeldOnlyBy_23 (by rfl) ?_
        refine j_goto X 28 dX5_countHeldOnlyBy_24 (by decide) ?_
        refine j_lv [0, 1, 3] rfl ?_
        exact hk4 (1 : Int32)
      · refine j_iconst X (0 : Int32) dX5_countHeldOnlyBy_27 (by rfl) ?_
        refine j_lv [0, 1, 3] rfl ?_
        exact hk4 (0 : Int32)
end GEN
